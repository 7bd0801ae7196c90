/** For each promise of the document: ordinary inputs, the edges that it names, and wrong inputs. */
public final class PromisesTest {
    private static final int SCAR = 0;
    private static final int BELLY = 1;
    private static final int SKIN = 2;
    private static final int BREAK = 3;
    private static final int NONE = FlintHeap.NONE;

    private PromisesTest() {
    }

    public static void main(String[] args) {
        aNewObject();
        days();
        piece();
        marks();
        face();
        feed();
        textReads();
        textFaults();
        textLimits();
        near();
        meetGapsAndTurns();
        meetMay();
        meetDoubt();
        candidate();
        join();
        part();
        joined();
        joinedRivals();
        look();
        lookByFeet();
        of();
        asOf();
        cuts();
        cobble();
        cobbleRing();
        cobbleChange();
        blow();
        blowsBeyondTwelve();
        seat();
        foot();
        hour();
        hands();
        blind();
        count();
        Check.end("PromisesTest");
    }

    private static int plain(FlintHeap h) {
        return h.piece(0, 50, 50, 50, 0);
    }

    /** A FACE with one measure all round; its number as 8 * PIECE + FACE. */
    private static int flat(FlintHeap h, int piece, int sort, int measure) {
        return 8 * piece + h.face(piece, sort, Check.rim(measure), 0);
    }

    /** A core with so many SCARS, each JOINED to the BELLY of a PIECE of its own. */
    private static FlintHeap struck(int flakes) {
        FlintHeap h = new FlintHeap();
        h.near(0);
        plain(h);
        for (int i = 0; i < flakes; i++) {
            int flake = plain(h);
            int scar = flat(h, 0, SCAR, 10 * i);
            Check.due("a JOIN of the core", h.join(scar, flat(h, flake, BELLY, 10 * i)), i);
        }
        return h;
    }

    private static void aNewObject() {
        FlintHeap h = new FlintHeap();
        int[] due = {0, 0, 0, 0, NONE, 0, 0, 0, 0, 0};
        for (int what = 0; what < due.length; what++) {
            Check.due("new: count(" + what + ")", h.count(what), due[what]);
        }
        Check.due("new: hour(4)", h.hour(4), 4);
        Check.due("new: text()", h.text(), 0);
        Check.due("NONE", NONE, -1);
        FlintHeap other = new FlintHeap();
        plain(other);
        Check.due("another object's PIECES", h.count(0), 0);
    }

    private static void days() {
        FlintHeap h = new FlintHeap();
        Check.due("days(0)", h.days(0), 0);
        Check.due("days(100)", h.days(100), 100);
        Check.due("days(-1)", h.days(-1), NONE);
        Check.due("days(101)", h.days(101), NONE);
        Check.due("days(most)", h.days(Integer.MAX_VALUE), NONE);
        for (int i = 2; i <= 9; i++) {
            Check.due("days(100)", h.days(100), 100 * i);
        }
        Check.due("days beyond 999", h.days(100), NONE);
        Check.due("NOW stays", h.count(7), 900);
        Check.due("days to 999", h.days(99), 999);
        Check.due("days(1) at 999", h.days(1), NONE);
        Check.due("days(0) at 999", h.days(0), 999);
    }

    private static void piece() {
        FlintHeap h = new FlintHeap();
        int[][] wrong = {{-2, 1, 0, 0, 0}, {8, 1, 0, 0, 0}, {0, 0, 0, 0, 0}, {0, 201, 0, 0, 0}, {0, 1, -1, 0, 0},
            {0, 1, 1000, 0, 0}, {0, 1, 0, -1, 0}, {0, 1, 0, 1000, 0}, {0, 1, 0, 0, -1}, {0, 1, 0, 0, 5}};
        for (int[] w : wrong) {
            Check.due("a wrong piece", h.piece(w[0], w[1], w[2], w[3], w[4]), NONE);
        }
        Check.due("none came", h.count(0), 0);
        Check.due("the least", h.piece(NONE, 1, 0, 0, 0), 0);
        Check.due("the greatest", h.piece(7, 200, 999, 999, 4), 1);
        for (int i = 2; i < 40; i++) {
            Check.due("a piece more", plain(h), i);
        }
        Check.due("the 41st", plain(h), NONE);
        Check.due("40 are there", h.count(0), 40);
        Check.due("stone of one not known", h.look(0, 0), NONE);
        Check.due("stone of a known one", h.look(1, 0), 7);
    }

    private static void marks() {
        FlintHeap h = new FlintHeap();
        Check.due("no piece", h.marks(0, 0, 0, 0, false, 0), false);
        h.piece(NONE, 60, 0, 0, 0);
        Check.read(h, "stone 5 when colour = 99 and grain = 98 and spots = 9 and fire and size = 60 ;"
                + "stone 4 when colour + grain + spots + fire = 0 ;");
        Check.due("all 0 at first", h.look(0, 0), 4);
        Check.due("faults 0 at first", h.cobble(0, 7), 0);
        Check.due("the greatest", h.marks(0, 99, 98, 9, true, 9), true);
        Check.due("they are told", h.look(0, 0), 5);
        Check.due("faults", h.cobble(0, 7), 9);
        int[][] wrong = {{-1, 0, 0, 0}, {100, 0, 0, 0}, {0, -1, 0, 0}, {0, 100, 0, 0}, {0, 0, -1, 0}, {0, 0, 10, 0},
            {0, 0, 0, -1}, {0, 0, 0, 10}};
        for (int[] w : wrong) {
            Check.due("a wrong mark", h.marks(0, w[0], w[1], w[2], false, w[3]), false);
        }
        Check.due("no piece 1", h.marks(1, 0, 0, 0, false, 0), false);
        Check.due("no piece -1", h.marks(-1, 0, 0, 0, false, 0), false);
        Check.due("wrong ones change nothing", h.look(0, 0), 5);
        Check.due("back to 0", h.marks(0, 0, 0, 0, false, 0), true);
        Check.due("told again", h.look(0, 0), 4);
    }

    private static void face() {
        FlintHeap h = new FlintHeap();
        Check.due("no piece", h.face(0, SCAR, 0, 0), NONE);
        plain(h);
        Check.due("sort -1", h.face(0, -1, 0, 0), NONE);
        Check.due("sort 4", h.face(0, 4, 0, 0), NONE);
        Check.due("ripple -1", h.face(0, SCAR, 0, -1), NONE);
        Check.due("ripple 8", h.face(0, SCAR, 0, 8), NONE);
        Check.due("a measure of 100 first", h.face(0, SCAR, Check.rim(100, 0, 0, 0, 0, 0, 0, 0), 0), NONE);
        Check.due("a measure of 100 last", h.face(0, SCAR, Check.rim(0, 0, 0, 0, 0, 0, 0, 100), 0), NONE);
        Check.due("a measure of 255", h.face(0, SCAR, -1L, 0), NONE);
        Check.due("piece -1", h.face(-1, SCAR, 0, 0), NONE);
        Check.due("99 all round", h.face(0, SCAR, Check.rim(99), 7), 0);
        Check.due("a BELLY", h.face(0, BELLY, 0, 0), 1);
        Check.due("a second BELLY", h.face(0, BELLY, 0, 0), NONE);
        for (int i = 2; i < 8; i++) {
            Check.due("a SKIN", h.face(0, SKIN, 0, 0), i);
        }
        Check.due("a ninth", h.face(0, SKIN, 0, 0), NONE);
        Check.due("8 are there", h.look(0, 4), 8);
        plain(h);
        Check.due("numbers are each piece's own", h.face(1, BREAK, 0, 0), 0);
    }

    private static void feed() {
        FlintHeap h = new FlintHeap();
        Check.due("bytes 0", h.feed(0, 0, 0), 0);
        Check.due("bytes 255", h.feed(-1L, -1L, -1L), 0);
        Check.due("9, 10, 11, 31, 32, 126, 127, 128", h.feed(0x090a0b1f207e7f80L, 0, 0), 3);
        Check.due("10, 32 and 126: a fault at place 2", h.text(), 1 + 16 * 2);
        // The order of signs: the highest byte first, a ahead of b ahead of c.
        Check.feed(h, "bar when gap + far - 12;");
        Check.due("24 signs", h.count(6), 24);
        Check.due("as told", h.text(), 0);
        for (int i = 1; i <= 41; i++) {
            h.feed(0x2020202020202020L, 0x2020202020202020L, 0x2020202020202020L);
        }
        Check.due("984 signs", h.count(6), 984);
        Check.due("beyond 1,000", h.feed(0x2020202020202020L, 0x2020202020202040L, 0x4040404040404040L), 1000);
        Check.due("full", h.feed(0x4040404040404040L, 0, 0), 1000);
        Check.due("the last sign that came", h.text(), 1 + 16 * 999);
    }

    private static int worth(String e) {
        FlintHeap h = new FlintHeap();
        plain(h);
        plain(h);
        h.near(400);
        int a = flat(h, 0, BREAK, 1);
        int b = flat(h, 1, BREAK, 1);
        int fault = Check.read(h, "doubt 99 when (" + e + ") = 0 ; doubt 1 when (" + e + ") = 1 ; doubt 2 when ("
                + e + ") = 2 ; doubt 4 when (" + e + ") < 0 ;");
        if (fault != 0) {
            return -fault;
        }
        return h.meet(a, b, 3);
    }

    private static void textReads() {
        Check.due("and, or from the left", worth("1 or 1 and 0"), 99);
        Check.due("and, or from the left", worth("0 and 0 or 1"), 1);
        Check.due("and of numbers", worth("5 and 7"), 1);
        Check.due("or of numbers", worth("0 or 7"), 1);
        Check.due("or of none", worth("0 or 0"), 99);
        Check.due("< tells 1", worth("( 1 < 2 ) + 1"), 2);
        Check.due("* ahead of +", worth("2 + 0 * 5"), 2);
        Check.due("- from the left", worth("5 - 2 - 1"), 2);
        Check.due("+ ahead of <", worth("1 + 1 < 2"), 99);
        Check.due("< ahead of and", worth("1 < 2 and 2 = 2"), 1);
        Check.due("not of a PART", worth("not 0 + 1"), 2);
        Check.due("not of more than 0", worth("not 5"), 99);
        Check.due("below 0", worth("1 - 2"), 4);
        Check.due("< tells 0", worth("2 < 1"), 99);
        Check.due("= of equal ones", worth("3 = 3"), 1);
        Check.due("round in 32 bits", worth("9999 * 9999 * 22 "), 4);
        Check.due("no blanks", worth("(1)+1"), 2);
        FlintHeap h = new FlintHeap();
        Check.due("a letter right behind a number", Check.read(h, "doubt 5when 1and 1;"), 0);
        Check.due("one line", h.count(5), 1);
        Check.due("a digit right behind a word", Check.read(h, "stone7when1;"), 0);
        Check.due("lines apart", Check.read(h, "let\na\n=\n1\n;\nbar when not a ;\n"), 0);
        Check.due("two lines", h.count(5), 2);
        Check.due("one NAME", h.count(9), 1);
        Check.due("the tape is empty", h.count(6), 0);
        Check.due("a fault", Check.read(h, "bar"), 1 + 16 * 3);
        Check.due("the tape is taken all the same", h.count(6), 0);
        Check.due("a fault leaves the text", h.count(5), 2);
        Check.due("the empty text", h.text(), 0);
        Check.due("takes its place", h.count(5), 0);
        Check.due("and its NAMES'", h.count(9), 0);
    }

    private static void fault(String text, int kind, int place) {
        Check.due("text " + text, Check.read(new FlintHeap(), text), kind == 0 ? 0 : kind + 16 * place);
    }

    private static void textFaults() {
        fault("keep", 1, 0);
        fault("  ;", 1, 2);
        fault("bar", 1, 3);
        fault("bar when 1   ", 1, 13);
        fault("bar when 1 ; $", 1, 13);
        fault("Bar when 1 ;", 1, 0);
        fault("bar when 1 2 ;", 1, 11);
        fault("bar when ( 1 ;", 1, 13);
        fault("bar when 1 ) ;", 1, 11);
        fault("bar when 1 = 2 = 3 ;", 1, 15);
        fault("bar when ( 1 = 2 ) = 3 ;", 0, 0);
        fault("bar when 12345 ;", 1, 9);
        fault("bar when 1234 ;", 0, 0);
        fault("bar when abcdefghi ;", 1, 9);
        fault("bar when abcdefgh ;", 2, 9);
        fault("let abcdefgh = 1 ; bar when abcdefgh ;", 0, 0);
        fault("let let = 1 ;", 1, 4);
        fault("let size = 1 ;", 1, 4);
        fault("let 1 = 1 ;", 1, 4);
        fault("let a 1 ;", 1, 6);
        fault("let a = 1 ; let a = 1 ;", 3, 16);
        fault("let a = a ;", 2, 8);
        fault("bar when b ; let b = 1 ;", 2, 9);
        fault("doubt when 1 ;", 1, 6);
        fault("doubt 0 when 1 ;", 4, 6);
        fault("doubt 99 when 1 ;", 0, 0);
        fault("doubt 100 when 1 ;", 4, 6);
        fault("doubt 12345 when 1 ;", 1, 6);
        fault("stone 7 when 1 ;", 0, 0);
        fault("stone 8 when 1 ;", 4, 6);
        fault("stone 0 when 1 ;", 0, 0);
        fault("stone 8 x", 4, 6);
        fault("bar when when ;", 1, 9);
        fault("bar when let ;", 1, 9);
        fault("bar when - 1 ;", 1, 9);
        fault("bar when 1 b ;", 1, 11);
        fault("bar when 1 + b ;", 2, 13);
        fault("bar when 1 and 2 * b ;", 2, 19);
        fault("bar when not b ;", 2, 13);
    }

    private static void textLimits() {
        fault("bar when not not not not 1 ;", 0, 0);
        fault("bar when not not not not not 1 ;", 5, 29);
        fault("bar when not not not not not not 1 ;", 5, 29);
        fault("bar when not not not not not ) ;", 1, 29);
        fault("bar when not not not not not b ;", 2, 29);
        fault("bar when not not not not not let ;", 1, 29);
        fault("bar when ( ( ( ( 1 ) ) ) ) ;", 0, 0);
        fault("bar when ( ( ( ( ( 1 ) ) ) ) ) ;", 5, 19);
        fault("bar when ( ( not ( ( gap ) ) ) ) ;", 5, 21);
        fault("bar when ( ( ( ( 1 ) ) ) ) + ( ( ( not 1 ) ) ) ;", 0, 0);
        StringBuilder lines = new StringBuilder();
        for (int i = 0; i < 24; i++) {
            lines.append("bar when 1;");
        }
        fault(lines.toString(), 0, 0);
        fault(lines + " ", 0, 0);
        fault(lines + "bar", 5, 264);
        fault(lines + "foo", 1, 264);
        StringBuilder names = new StringBuilder();
        for (char c = 'a'; c < 'i'; c++) {
            names.append("let ").append(c).append("=1;");
        }
        fault(names.toString(), 0, 0);
        fault(names + "let x=1;", 5, 68);
        fault(names + "let a=1;", 3, 68);
        fault(names + "let gap=1;", 1, 68);
        fault(names + "bar when h;", 0, 0);
    }

    private static void near() {
        FlintHeap h = new FlintHeap();
        plain(h);
        plain(h);
        int a = flat(h, 0, BREAK, 10);
        int b = flat(h, 1, BREAK, 13);
        Check.due("gap 24, t 20", h.meet(a, b, 2), 0);
        Check.due("near(24)", h.near(24), true);
        Check.due("gap 24, t 24", h.meet(a, b, 2), 1);
        Check.due("near(-1)", h.near(-1), false);
        Check.due("near(401)", h.near(401), false);
        Check.due("it stays", h.meet(a, b, 2), 1);
        Check.due("near(0)", h.near(0), true);
        Check.due("gap 24, t 0", h.meet(a, b, 2), 0);
        Check.due("near(400)", h.near(400), true);
        Check.due("gap 24, t 400", h.meet(a, b, 2), 1);
    }

    private static void meetGapsAndTurns() {
        FlintHeap h = new FlintHeap();
        plain(h);
        plain(h);
        int f = 8 * 0 + h.face(0, SKIN, Check.rim(1, 2, 3, 4, 5, 6, 7, 8), 2);
        // g's measure k is f's measure (5 - k) modulo 8, and its RIPPLE (5 - 2).
        int g = 8 * 1 + h.face(1, SCAR, Check.rim(6, 5, 4, 3, 2, 1, 8, 7), 3);
        Check.due("GAP of a fit", h.meet(f, g, 0), 0);
        Check.due("TURN of a fit", h.meet(f, g, 1), 5);
        Check.due("GAP the other way", h.meet(g, f, 0), 0);
        Check.due("TURN the other way", h.meet(g, f, 1), 5);
        int flat = 8 * 0 + h.face(0, SKIN, Check.rim(9), 6);
        int flatter = 8 * 1 + h.face(1, SKIN, Check.rim(7), 6);
        Check.due("GAP of flat ones", h.meet(flat, flatter, 0), 16);
        Check.due("their RIPPLES give the TURN", h.meet(flat, flatter, 1), 4);
        // One high measure and RIPPLES against it: 5 * 2 of RIPPLES, or twice 50 of the RIM.
        int high = 8 * 0 + h.face(0, SKIN, Check.rim(50, 0, 0, 0, 0, 0, 0, 0), 1);
        int higher = 8 * 1 + h.face(1, SKIN, Check.rim(50, 0, 0, 0, 0, 0, 0, 0), 1);
        Check.due("the RIPPLES give way", h.meet(high, higher, 0), 10);
        Check.due("TURN by the RIM", h.meet(high, higher, 1), 0);
        int low = 8 * 1 + h.face(1, SKIN, Check.rim(2, 0, 0, 0, 2, 0, 0, 0), 0);
        int even = 8 * 0 + h.face(0, SKIN, Check.rim(2, 0, 0, 0, 2, 0, 0, 0), 2);
        // TURN 0 has 5 * 2, 2 has 8, 4 has 5 * 2: the least is at 2, then at 1 and 3 5 + 8.
        Check.due("least sum", h.meet(even, low, 0), 8);
        Check.due("its TURN", h.meet(even, low, 1), 2);
        Check.throwsNoSuch("meet of one PIECE", () -> h.meet(f, flat, 0));
        Check.throwsNoSuch("meet of one FACE", () -> h.meet(f, f, 0));
        Check.throwsNoSuch("no such FACE", () -> h.meet(7, g, 0));
        Check.throwsNoSuch("no such FACE", () -> h.meet(f, 16, 0));
        Check.throwsNoSuch("no such FACE", () -> h.meet(-1, g, 0));
        Check.throwsNoSuch("no such FACE", () -> h.meet(f, Integer.MAX_VALUE, 0));
        Check.throwsNoSuch("what -1", () -> h.meet(f, g, -1));
        Check.throwsNoSuch("what 4", () -> h.meet(f, g, 4));
    }

    private static void meetMay() {
        int[][] sorts = {{0, 0, 0}, {0, 1, 1}, {1, 0, 1}, {1, 1, 0}, {2, 2, 0}, {3, 3, 1}, {0, 3, 0}, {3, 1, 0},
            {2, 0, 0}, {1, 2, 0}, {2, 3, 0}};
        for (int[] s : sorts) {
            FlintHeap h = new FlintHeap();
            plain(h);
            plain(h);
            int a = flat(h, 0, s[0], 5);
            int b = flat(h, 1, s[1], 5);
            Check.due("sorts " + s[0] + " and " + s[1], h.meet(a, b, 2), s[2]);
        }
        int[][] stones = {{3, 3, 1}, {3, 4, 0}, {NONE, 4, 1}, {3, NONE, 1}, {NONE, NONE, 1}};
        for (int[] s : stones) {
            FlintHeap h = new FlintHeap();
            h.piece(s[0], 50, 0, 0, 0);
            h.piece(s[1], 50, 0, 0, 0);
            int a = flat(h, 0, BREAK, 5);
            int b = flat(h, 1, BREAK, 5);
            Check.due("stones " + s[0] + " and " + s[1], h.meet(a, b, 2), s[2]);
            Check.read(h, "stone 4 when 1 ;");
            int now = s[0] == 3 && s[1] == 3 || s[0] != 3 && s[1] != 3 ? 1 : 0;
            Check.due("with a stone line", h.meet(a, b, 2), now);
        }
        FlintHeap h = new FlintHeap();
        plain(h);
        plain(h);
        int a = flat(h, 0, BREAK, 5);
        int b = flat(h, 1, BREAK, 10);
        Check.due("gap 40, t 20", h.meet(a, b, 2), 0);
        h.marks(0, 0, 0, 0, true, 0);
        Check.due("one burnt", h.meet(a, b, 2), 0);
        h.marks(1, 0, 0, 0, true, 0);
        Check.due("both burnt", h.meet(a, b, 2), 1);
        h.near(19);
        Check.due("both burnt, t 19", h.meet(a, b, 2), 0);
        h.near(20);
        Check.read(h, "bar when 0 ; bar when burnt = 2 ;");
        Check.due("a bar line that holds", h.meet(a, b, 2), 0);
        Check.read(h, "bar when 0 ; bar when burnt = 1 ;");
        Check.due("bar lines that don't", h.meet(a, b, 2), 1);
        Check.read(h, "bar when 0 - 5 ;");
        Check.due("below 0 is not 0", h.meet(a, b, 2), 0);
    }

    private static void meetDoubt() {
        FlintHeap h = new FlintHeap();
        h.near(400);
        h.piece(1, 30, 100, 200, 1);
        h.piece(1, 70, 150, 500, 4);
        h.marks(0, 10, 20, 3, true, 0);
        h.marks(1, 16, 19, 5, false, 0);
        int scar = flat(h, 0, SCAR, 5);
        int belly = flat(h, 1, BELLY, 6);
        Check.read(h, "doubt 1 when gap = 8; doubt 2 when small = 70; doubt 4 when great = 30; doubt 8 when far = 300;"
                + "doubt 16 when layers = 3; doubt 32 when burnt = 1; doubt 64 when breaks = 0;");
        Check.due("words of a meeting", h.meet(scar, belly, 3), 127);
        Check.due("the other way", h.meet(belly, scar, 3), 127);
        Check.read(h, "doubt 1 when colour = 6; doubt 2 when grain = 1; doubt 4 when spots = 2; doubt 8 when fire = 1;"
                + "doubt 16 when size = 40;");
        Check.due("words of a PIECE in a meeting", h.meet(scar, belly, 3), 31);
        int a = flat(h, 0, BREAK, 5);
        int b = flat(h, 1, BREAK, 5);
        Check.read(h, "doubt 1 when small = 30; doubt 2 when great = 70; doubt 4 when breaks = 1; doubt 99 when 0;");
        Check.due("of BREAKS", h.meet(a, b, 3), 7);
        Check.due("of BREAKS the other way", h.meet(b, a, 3), 7);
        Check.read(h, "let v = gap + 2 ; let w = v * v ; doubt 9 when w = 100 ; let u = w - 1 ; doubt 3 when u = 99 ;");
        Check.due("NAMES by NAMES", h.meet(scar, belly, 3), 12);
        Check.read(h, "bar when 1 ; doubt 9 when 1 ;");
        Check.due("0 if they may not", h.meet(scar, belly, 3), 0);
        Check.read(h, "let a=1;let b=a+1;let c=b+1;let d=c+1;let e=d+1;let f=e+1;let g=f+1;let h=g+1;doubt 5 when h=8;");
        Check.due("the eighth NAME", h.meet(scar, belly, 3), 5);
        StringBuilder much = new StringBuilder();
        for (int i = 0; i < 24; i++) {
            much.append("doubt 99 when 1;");
        }
        Check.read(h, much.toString());
        Check.due("24 lines of 99", h.meet(scar, belly, 3), 2376);
    }

    private static void candidate() {
        FlintHeap h = new FlintHeap();
        for (int i = 0; i < 3; i++) {
            plain(h);
            flat(h, i, BREAK, 5);
            flat(h, i, SKIN, 5);
            flat(h, i, BREAK, 5);
        }
        int[] due = {0, 2, 16, 18, NONE};
        for (int i = 0; i < due.length; i++) {
            Check.due("candidate(8, " + i + ")", h.candidate(8, i), due[i]);
        }
        Check.due("candidate(8, -1)", h.candidate(8, -1), NONE);
        Check.due("of a SKIN", h.candidate(9, 0), NONE);
        Check.due("no such FACE", h.candidate(11, 0), NONE);
        Check.due("no such FACE", h.candidate(-1, 0), NONE);
        Check.due("no such FACE", h.candidate(320, 0), NONE);
        h.join(0, 16);
        Check.due("those in a JOIN, too", h.candidate(8, 0), 0);
        h.marks(0, 50, 0, 0, false, 0);
        Check.read(h, "bar when colour = 50 ;");
        Check.due("as things are now", h.candidate(8, 0), 16);
    }

    private static void join() {
        FlintHeap h = new FlintHeap();
        for (int i = 0; i < 3; i++) {
            plain(h);
            flat(h, i, BREAK, 5);
            flat(h, i, BREAK, 50);
        }
        Check.due("no such FACE", h.join(0, 10), NONE);
        Check.due("no such FACE", h.join(-1, 8), NONE);
        Check.due("of one PIECE", h.join(0, 1), NONE);
        Check.due("they may not meet", h.join(0, 9), NONE);
        Check.due("the first", h.join(0, 8), 0);
        Check.due("the first FACE is in a JOIN", h.join(0, 16), NONE);
        Check.due("the second FACE is in a JOIN", h.join(16, 8), NONE);
        Check.due("the second", h.join(17, 1), 1);
        Check.due("two stand", h.count(1), 2);
        for (int i = 2; i < 80; i++) {
            h.part(i - 1);
            Check.due("once more", h.join(17, 1), i);
        }
        h.part(79);
        Check.due("80 came", h.join(17, 1), NONE);
        Check.due("the free ones may meet all the same", h.meet(17, 1, 2), 1);
        Check.due("one stands", h.count(1), 1);
    }

    private static void part() {
        FlintHeap h = struck(2);
        Check.due("no such JOIN", h.part(-1), false);
        Check.due("no such JOIN", h.part(2), false);
        h.days(7);
        Check.due("PARTED", h.part(1), true);
        Check.due("it is", h.part(1), false);
        Check.due("its DAY", h.joined(1, 4), 7);
        Check.due("the other one stays", h.joined(0, 4), NONE);
        Check.due("its PIECE is alone", h.look(2, 1), 2);
        Check.due("its FACE is free", h.of(16, 1), NONE);
        Check.due("and may be JOINED", h.join(16, 1), 2);
        h.near(0);
        Check.read(h, "bar when 1 ;");
        Check.due("JOINS stay whatever the text is", h.count(1), 2);
    }

    private static void joined() {
        FlintHeap h = new FlintHeap();
        for (int i = 0; i < 2; i++) {
            plain(h);
            h.face(i, BREAK, Check.rim(5), 0);
            h.face(i, BREAK, Check.rim(50), 3);
        }
        h.days(3);
        h.join(8, 0);
        h.days(4);
        h.join(1, 9);
        int[][] due = {{8, 0, 0, 3, NONE, 0}, {1, 9, 6, 7, NONE, 1}};
        for (int join = 0; join < 2; join++) {
            for (int what = 0; what < 6; what++) {
                Check.due("joined(" + join + ", " + what + ")", h.joined(join, what), due[join][what]);
            }
        }
        Check.read(h, "bar when gap = 0 ; doubt 11 when breaks ; doubt 2 when colour = 9 ;");
        Check.due("DOUBT though they may not meet", h.joined(1, 7), 11);
        h.marks(0, 9, 0, 0, false, 0);
        Check.due("DOUBT as things are now", h.joined(1, 7), 13);
        h.days(1);
        h.part(1);
        Check.due("the DAY when PARTED", h.joined(1, 4), 8);
        Check.due("a PARTED one is not OPEN", h.joined(1, 5), 0);
        Check.due("RIVALS of a PARTED one", h.joined(1, 6), 0);
        Check.due("DOUBT of a PARTED one", h.joined(1, 7), 13);
        Check.throwsNoSuch("no such JOIN", () -> h.joined(2, 0));
        Check.throwsNoSuch("no such JOIN", () -> h.joined(-1, 0));
        Check.throwsNoSuch("what 8", () -> h.joined(0, 8));
        Check.throwsNoSuch("what -1", () -> h.joined(0, -1));
    }

    private static void joinedRivals() {
        FlintHeap h = new FlintHeap();
        for (int i = 0; i < 3; i++) {
            plain(h);
            flat(h, i, BREAK, 5);
            flat(h, i, BREAK, 6);
            flat(h, i, SKIN, 5);
        }
        h.join(0, 8);
        // 1 may meet 8, 9 may meet 0; 16 and 17 may meet both and count once.
        Check.due("RIVALS", h.joined(0, 6), 4);
        h.join(1, 17);
        Check.due("RIVALS in other JOINS, too", h.joined(0, 6), 4);
        h.near(0);
        Check.due("RIVALS now", h.joined(0, 6), 1);
        h.near(20);
        Check.due("the first FACE of all is a RIVAL", h.joined(1, 6), 4);
        FlintHeap s = struck(1);
        plain(s);
        flat(s, 2, BELLY, 0);
        flat(s, 2, SCAR, 0);
        flat(s, 0, SCAR, 0);
        flat(s, 1, SCAR, 0);
        Check.due("RIVALS of a BELLY and a SCAR", s.joined(0, 6), 3);
    }

    private static void look() {
        FlintHeap h = struck(3);
        Check.throwsNoSuch("no such PIECE", () -> h.look(4, 0));
        Check.throwsNoSuch("no such PIECE", () -> h.look(-1, 0));
        Check.throwsNoSuch("what -1", () -> h.look(0, -1));
        Check.throwsNoSuch("what 9", () -> h.look(0, 9));
        Check.due("stone", h.look(3, 0), 0);
        Check.due("COBBLE", h.look(3, 1), 0);
        Check.due("WHOLE", h.look(3, 2), 3);
        Check.due("FACES", h.look(0, 4), 3);
        int size = 1;
        int[] sizes = {1, 3, 200, 150, 50};
        int[] loose = {410, 143, 12, 12, 18};
        for (int i = 0; i < sizes.length; i++) {
            size = h.piece(0, sizes[i], 0, 0, 0);
            Check.due("LOOSE of size " + sizes[i], h.look(size, 8), loose[i]);
        }
        FlintHeap t = new FlintHeap();
        for (int i = 0; i < 4; i++) {
            plain(t);
        }
        // TURNS 1 and 2 by RIPPLES: 0 - 1 with 1, 1 - 2 with 2, 3 - 2 with 7.
        int[][] joins = {{0, 0, 1, 1}, {1, 0, 2, 2}, {2, 3, 3, 4}};
        for (int k = 0; k < 3; k++) {
            int a = 8 * joins[k][0] + t.face(joins[k][0], BREAK, Check.rim(20 * k), joins[k][1]);
            int b = 8 * joins[k][2] + t.face(joins[k][2], BREAK, Check.rim(20 * k), joins[k][3]);
            Check.due("a chain's JOIN", t.join(b, a), k);
        }
        int[] turns = {0, 1, 1, 6};
        for (int i = 0; i < 4; i++) {
            Check.due("TURN of " + i, t.look(i, 3), turns[i]);
        }
        t.part(0);
        int[] later = {0, 0, 2, 5};
        for (int i = 0; i < 4; i++) {
            Check.due("TURN of " + i + ", 0 being off", t.look(i, 3), later[i]);
        }
        h.piece(NONE, 9, 0, 0, 0);
        Check.read(h, "stone 6 when size = 10 ; stone 2 when size = 9 and gap = 0 and far + layers + burnt + breaks = 0 ;"
                + "stone 3 when 1 ; ");
        Check.due("the first stone line that holds", h.look(9, 0), 2);
        Check.due("a known stone stays", h.look(0, 0), 0);
    }

    private static void lookByFeet() {
        FlintHeap h = new FlintHeap();
        h.piece(0, 40, 150, 260, 0);
        Check.due("x at the SEAT", h.look(0, 6), 150);
        Check.due("y at the SEAT", h.look(0, 7), 250);
        Check.due("LEFT ALONE", h.look(0, 5), 1);
        h.foot(251, 250, 99);
        Check.due("a FOOT too far along x", h.look(0, 6), 150);
        h.foot(150, 351, 99);
        Check.due("a FOOT too far along y", h.look(0, 7), 250);
        h.foot(250, 150, 13);
        Check.due("away from a FOOT along x", h.look(0, 6), 144);
        Check.due("away from a FOOT along y", h.look(0, 7), 256);
        h.foot(144, 256, 5);
        Check.due("no way: to the greater side", h.look(0, 6), 146);
        Check.due("no way: to the greater side", h.look(0, 7), 258);
        Check.due("still LEFT ALONE", h.look(0, 5), 1);
        h.foot(100, 258, 34);
        Check.due("beyond LOOSE", h.look(0, 6), 163);
        Check.due("y is near yet", h.look(0, 7), 275);
        Check.due("LEFT ALONE along both at most LOOSE", h.look(0, 5), 1);
        h.foot(100, 274, 16);
        Check.due("x 171", h.look(0, 6), 171);
        Check.due("not LEFT ALONE", h.look(0, 5), 0);
        leftAloneAtTheEdge();
        FlintHeap edge = new FlintHeap();
        edge.piece(0, 10, 10, 990, 0);
        edge.foot(60, 940, 99);
        Check.due("not below 0", edge.look(0, 6), 0);
        Check.due("not above 999", edge.look(0, 7), 999);
    }

    private static void leftAloneAtTheEdge() {
        // LOOSE is 20; the COST of the SEAT at 150, 150 is 0, 1 and 1.
        int[][] places = {{170, 130, 1}, {171, 150, 0}, {150, 129, 0}, {129, 150, 0}, {150, 171, 0}};
        for (int[] p : places) {
            FlintHeap h = new FlintHeap();
            h.piece(0, 40, p[0], p[1], 0);
            Check.due("its SEAT", h.seat(0, 1, 1), 11);
            Check.due("LEFT ALONE at " + p[0] + ", " + p[1], h.look(0, 5), p[2]);
        }
    }

    private static void of() {
        FlintHeap h = struck(2);
        Check.throwsNoSuch("no such FACE", () -> h.of(3, 0));
        Check.throwsNoSuch("no such FACE", () -> h.of(-8, 0));
        Check.throwsNoSuch("no such FACE", () -> h.of(400, 0));
        Check.throwsNoSuch("what 5", () -> h.of(0, 5));
        Check.throwsNoSuch("what -1", () -> h.of(0, -1));
        Check.due("sort of a SCAR", h.of(0, 0), SCAR);
        Check.due("sort of a BELLY", h.of(8, 0), BELLY);
        Check.due("JOINED to", h.of(1, 1), 16);
        Check.due("JOINED to", h.of(16, 1), 1);
        Check.due("BLOW of a SCAR", h.of(1, 2), 2);
        Check.due("BLOW of a BELLY", h.of(16, 2), NONE);
        Check.due("SPAN of what is no HOLE", h.of(1, 3), NONE);
        int hole = 16 + h.face(2, SCAR, Check.rim(1, 2, 3, 4, 5, 6, 7, 8), 0);
        h.near(30);
        Check.due("BLOW of a HOLE", h.of(hole, 2), 100 + hole);
        Check.due("SPAN from", h.of(hole, 3), 6);
        Check.due("SPAN to", h.of(hole, 4), 66);
        h.near(37);
        Check.due("SPAN from 0 at least", h.of(hole, 3), 0);
        Check.due("SPAN to", h.of(hole, 4), 73);
        h.part(1);
        Check.due("a PIECE alone has no HOLE", h.of(hole, 2), NONE);
        Check.due("nor its SPAN", h.of(hole, 4), NONE);
        Check.due("the free SCAR is one", h.of(1, 2), 101);
        Check.due("JOINED to none", h.of(1, 1), NONE);
        // The BLOW of a SCAR is the WHOLE of the BELLY: the least PIECE that hangs on it by BREAKS.
        FlintHeap w = new FlintHeap();
        for (int i = 0; i < 3; i++) {
            plain(w);
        }
        int scar = flat(w, 2, SCAR, 10);
        w.join(scar, flat(w, 1, BELLY, 10));
        Check.due("by its own name", w.of(scar, 2), 1);
        w.join(flat(w, 1, BREAK, 30), flat(w, 0, BREAK, 30));
        Check.due("by its WHOLE's name", w.of(scar, 2), 0);
    }

    private static void asOf() {
        FlintHeap h = new FlintHeap();
        for (int i = 0; i < 3; i++) {
            plain(h);
            flat(h, i, BREAK, 5);
            flat(h, i, BREAK, 40);
        }
        h.days(2);
        h.join(0, 8);
        h.days(2);
        h.join(9, 17);
        h.days(2);
        h.part(0);
        h.days(2);
        int[] due = {2, 2, 2, 2, 0, 0, 1, 1, 1};
        for (int day = 0; day < due.length; day++) {
            Check.due("asOf(2, " + day + ")", h.asOf(2, day), due[day]);
        }
        Check.due("asOf(1, 3)", h.asOf(1, 3), 0);
        Check.due("a DAY to come", h.asOf(2, 9), NONE);
        Check.due("a DAY below 0", h.asOf(2, -1), NONE);
        Check.due("no such PIECE", h.asOf(3, 0), NONE);
        Check.due("no such PIECE", h.asOf(-1, 0), NONE);
        h.join(0, 8);
        h.part(2);
        Check.due("JOINED and PARTED on one DAY", h.asOf(1, 8), 1);
    }

    private static void cuts() {
        FlintHeap h = new FlintHeap();
        plain(h);
        plain(h);
        flat(h, 0, SCAR, 1);
        flat(h, 0, SCAR, 1);
        flat(h, 0, BELLY, 1);
        flat(h, 0, SCAR, 1);
        flat(h, 1, SCAR, 1);
        Check.due("told", h.cuts(0, 1, 1), true);
        Check.due("told", h.cuts(3, 1, 9), true);
        Check.due("weight 10", h.cuts(0, 3, 10), false);
        Check.due("weight -1", h.cuts(0, 3, -1), false);
        Check.due("one SCAR", h.cuts(0, 0, 1), false);
        Check.due("a BELLY", h.cuts(0, 2, 1), false);
        Check.due("two PIECES", h.cuts(0, 8, 1), false);
        Check.due("no such FACE", h.cuts(0, 4, 1), false);
        Check.due("no such FACE", h.cuts(-1, 0, 1), false);
        Check.due("CUTS told", h.count(8), 2);
        Check.due("the other way in its place", h.cuts(1, 0, 5), true);
        Check.due("CUTS told", h.count(8), 2);
        Check.due("nothing is told, whichever way", h.cuts(0, 1, 0), true);
        Check.due("CUTS told", h.count(8), 1);
        Check.due("nothing was told", h.cuts(0, 1, 0), true);
        Check.due("CUTS told", h.count(8), 1);
    }

    private static void cobble() {
        FlintHeap h = struck(3);
        Check.throwsNoSuch("no such PIECE", () -> h.cobble(4, 0));
        Check.throwsNoSuch("no such PIECE", () -> h.cobble(-1, 0));
        Check.throwsNoSuch("what 8", () -> h.cobble(0, 8));
        Check.throwsNoSuch("what -1", () -> h.cobble(0, -1));
        flat(h, 1, SCAR, 70);
        h.marks(1, 0, 0, 0, false, 4);
        h.marks(3, 0, 0, 0, false, 5);
        // The ORDER is 0 2 3 109 1, the faults 0 0 5 4: 18 * 18 / 36 at 2.
        int[] due = {4, 4, 1, 0, 0, 0, 2, 9};
        for (int what = 0; what < due.length; what++) {
            Check.due("cobble(2, " + what + ")", h.cobble(2, what), due[what]);
        }
        h.cuts(0, 1, 3);
        h.cuts(1, 2, 4);
        Check.due("CUTS that agree", h.cobble(0, 4), 0);
        h.cuts(2, 0, 5);
        Check.due("the least of a quarrel", h.cobble(0, 4), 3);
        h.cuts(2, 0, 2);
        Check.due("told anew", h.cobble(0, 4), 2);
        h.part(2);
        Check.due("a HOLE quarrels, too", h.cobble(0, 4), 2);
        h.join(flat(h, 1, BREAK, 99), flat(h, 2, BREAK, 99));
        Check.due("CUTS of the same BLOW don't count", h.cobble(0, 4), 2);
        h.cuts(2, 0, 0);
        Check.due("nothing told", h.cobble(0, 4), 0);
        int alone = plain(h);
        flat(h, alone, SCAR, 1);
        int[] single = {1, 1, 0, 0, 0, 0, NONE, 0};
        for (int what = 0; what < single.length; what++) {
            Check.due("a PIECE alone, " + what, h.cobble(alone, what), single[what]);
        }
        openJoins();
        quarrelsOfAll();
        // A ring of three BREAKS whose last TURN does not close.
        FlintHeap t = new FlintHeap();
        for (int i = 0; i < 3; i++) {
            plain(t);
        }
        for (int i = 0; i < 3; i++) {
            int a = 8 * i + t.face(i, BREAK, Check.rim(30 * i), 0);
            int other = (i + 1) % 3;
            int b = 8 * other + t.face(other, BREAK, Check.rim(30 * i), i == 2 ? 1 : 0);
            Check.due("a JOIN of the ring", t.join(a, b), i);
        }
        Check.due("OPEN JOINS", t.cobble(1, 3), 1);
        Check.due("one WHOLE", t.cobble(1, 1), 1);
        Check.due("which is found first", t.joined(1, 5), 1);
        Check.due("OPEN JOINS in all", t.count(3), 1);
    }

    private static void openJoins() {
        // TURNS 0, 3, 3 by the JOINS 1 and 2; the JOIN 0 hangs on 1 and 2 alone and asks for 6.
        FlintHeap h = new FlintHeap();
        for (int i = 0; i < 3; i++) {
            plain(h);
        }
        int[][] chain = {{1, 2, 5}, {0, 1, 3}, {0, 2, 3}};
        for (int k = 0; k < 3; k++) {
            int a = 8 * chain[k][0] + h.face(chain[k][0], BREAK, Check.rim(30 * k), 0);
            int b = 8 * chain[k][1] + h.face(chain[k][1], BREAK, Check.rim(30 * k), chain[k][2]);
            h.join(a, b);
        }
        Check.due("3 + 3 is not 5", h.joined(0, 5), 1);
        Check.due("OPEN, the first JOIN of all", h.cobble(0, 3), 1);
        Check.due("OPEN, the first JOIN of all", h.count(3), 1);
        h.part(0);
        Check.due("none is OPEN", h.count(3), 0);
        h.join(8 + h.face(1, BREAK, Check.rim(90), 4), 16 + h.face(2, BREAK, Check.rim(90), 2));
        Check.due("3 + 3 is 6: CLOSED", h.joined(3, 5), 0);
    }

    private static void quarrelsOfAll() {
        // The core 1 is struck off 0, so all SCARS of 1 are ahead of it; the SCAR of 0 that it left is cut by others.
        FlintHeap h = struck(1);
        flat(h, 0, SCAR, 60);
        flat(h, 1, SCAR, 61);
        h.cuts(1, 0, 4);
        orderIs(h, 0, 0, 109, 1, 101);
        Check.due("no quarrel", h.cobble(0, 4), 0);
        h.cuts(0, 1, 4);
        orderIs(h, 0, 0, 101, 109, 1);
        // Between the WHOLES 0 and 1 of a core 2 the CUTS of two PIECES add up.
        FlintHeap two = new FlintHeap();
        two.near(0);
        for (int i = 0; i < 4; i++) {
            plain(two);
        }
        two.join(flat(two, 2, SCAR, 10), flat(two, 0, BELLY, 10));
        two.join(flat(two, 2, SCAR, 20), flat(two, 1, BELLY, 20));
        two.cuts(16, 17, 7);
        orderIs(two, 2, 1, 0, 2);
        two.cuts(17, 16, 7);
        orderIs(two, 2, 0, 1, 2);
        two.join(flat(two, 2, BREAK, 30), flat(two, 3, BREAK, 30));
        orderIs(two, 3, 0, 1, 2);
        // A HOLE at the first FACE of all has the number 100.
        FlintHeap first = new FlintHeap();
        plain(first);
        plain(first);
        flat(first, 0, SCAR, 90);
        first.join(flat(first, 0, BREAK, 5), flat(first, 1, BREAK, 5));
        Check.due("the HOLE 100", first.cobble(1, 2), 1);
        orderIs(first, 1, 0, 100);
        first.join(0, flat(first, 1, BELLY, 90));
        orderIs(first, 1, 0);
    }

    private static void cobbleRing() {
        FlintHeap h = new FlintHeap();
        plain(h);
        plain(h);
        flat(h, 0, SCAR, 10);
        flat(h, 0, BELLY, 90);
        flat(h, 1, BELLY, 10);
        flat(h, 1, SCAR, 90);
        h.join(0, 8);
        Check.due("no RING", h.cobble(0, 5), 0);
        // 0 has a SCAR whose BLOW is 1 but no BELLY in a JOIN: nothing is SURE yet.
        Check.due("the ORDER", h.blow(0, 0), 0);
        h.join(1, 9);
        Check.due("a RING", h.cobble(1, 5), 1);
        Check.due("its QUARREL", h.cobble(1, 4), NONE);
        Check.due("its CHANGE", h.cobble(1, 6), NONE);
        Check.due("its ORDER", h.blow(1, 0), NONE);
        h.join(flat(h, 0, BREAK, 50), flat(h, 1, BREAK, 50));
        Check.due("one WHOLE is left out", h.cobble(1, 5), 0);
        Check.due("its QUARREL", h.cobble(1, 4), 0);
        h.part(2);
        for (int i = 0; i < 10; i++) {
            Check.due("RING with " + i + " HOLES", h.cobble(0, 5), 1);
            flat(h, i % 2, SCAR, 70);
        }
        Check.due("12 BLOWS", h.cobble(0, 1) + h.cobble(0, 2), 12);
        Check.due("RING of 12", h.cobble(0, 5), 1);
        h.part(0);
        Check.due("no RING any more", h.cobble(0, 5), 0);
    }

    private static void cobbleChange() {
        FlintHeap h = struck(4);
        Check.due("no faults: none", h.cobble(0, 6), NONE);
        h.marks(3, 0, 0, 0, false, 9);
        h.marks(4, 0, 0, 0, false, 9);
        // 0 0 0 9 9: 2 ahead 18 * 18 * ... = 36 * 36 / 108 = 12, 3 ahead 54 * 54 / 108 = 27.
        Check.due("the greatest", h.cobble(0, 6), 3);
        h.marks(3, 0, 0, 0, false, 1);
        h.marks(4, 0, 0, 0, false, 1);
        // 2 ahead: 4 * 4 / 12, 3 ahead: 6 * 6 / 12: not above 4.
        Check.due("not of TWO HANDS", h.cobble(0, 6), NONE);
        h.marks(4, 0, 0, 0, false, 2);
        // 0 0 0 1 2: 3 ahead: 9 * 9 / 18 = 4.5.
        Check.due("just above 4", h.cobble(0, 6), 3);
        h.marks(3, 0, 0, 0, false, 0);
        h.marks(4, 0, 0, 0, false, 0);
        h.marks(2, 0, 0, 0, false, 9);
        Check.due("of equal ones the first", h.cobble(0, 6), 2);
        FlintHeap three = struck(2);
        three.marks(0, 0, 0, 0, false, 9);
        Check.due("3 WHOLES have no place", three.cobble(0, 6), NONE);
        FlintHeap four = struck(3);
        four.marks(0, 0, 0, 0, false, 9);
        four.marks(1, 0, 0, 0, false, 9);
        flat(four, 2, SCAR, 99);
        Check.due("HOLES left out", four.cobble(0, 6), 2);
    }

    private static void blow() {
        FlintHeap h = struck(2);
        Check.due("no such PIECE", h.blow(3, 0), NONE);
        Check.due("no such PIECE", h.blow(-1, 0), NONE);
        orderIs(h, 0, 0, 1, 2);
        Check.due("i -1", h.blow(0, -1), NONE);
        h.cuts(0, 1, 1);
        orderIs(h, 1, 0, 2, 1);
        flat(h, 2, SCAR, 77);
        orderIs(h, 2, 0, 116 + 1, 2, 1);
        flat(h, 0, SCAR, 78);
        orderIs(h, 0, 0, 102, 117, 2, 1);
        h.cuts(2, 1, 2);
        orderIs(h, 0, 0, 117, 2, 1, 102);
        h.cuts(1, 2, 2);
        orderIs(h, 0, 0, 102, 117, 2, 1);
        h.cuts(2, 0, 9);
        Check.due("a quarrel of 1", h.cobble(0, 4), 1);
        orderIs(h, 0, 0, 1, 102, 117, 2);
        int alone = plain(h);
        flat(h, alone, SCAR, 1);
        orderIs(h, alone, alone);
    }

    private static void orderIs(FlintHeap h, int piece, int... due) {
        for (int i = 0; i < due.length; i++) {
            Check.due("blow(" + piece + ", " + i + ")", h.blow(piece, i), due[i]);
        }
        Check.due("no more blows", h.blow(piece, due.length), NONE);
    }

    private static void blowsBeyondTwelve() {
        FlintHeap h = struck(2);
        for (int i = 0; i < 6; i++) {
            flat(h, 0, SCAR, 60);
        }
        for (int i = 0; i < 3; i++) {
            flat(h, 1, SCAR, 61);
        }
        Check.due("12 BLOWS", h.cobble(0, 1) + h.cobble(0, 2), 12);
        Check.due("their QUARREL", h.cobble(0, 4), 0);
        orderIs(h, 0, 0, 2, 102, 103, 104, 105, 106, 107, 109, 110, 111, 1);
        flat(h, 2, SCAR, 62);
        Check.due("13 BLOWS: QUARREL", h.cobble(0, 4), NONE);
        Check.due("13 BLOWS: RING", h.cobble(0, 5), 0);
        Check.due("13 BLOWS: CHANGE", h.cobble(0, 6), NONE);
        Check.due("13 BLOWS: ORDER", h.blow(0, 0), NONE);
        Check.due("13 BLOWS: HOLES", h.cobble(0, 2), 10);
    }

    private static void seat() {
        FlintHeap h = new FlintHeap();
        h.piece(0, 200, 150, 250, 0);
        Check.throwsNoSuch("no such PIECE", () -> h.seat(1, 1, 0));
        Check.throwsNoSuch("no such PIECE", () -> h.seat(-1, 1, 0));
        Check.throwsNoSuch("n 0", () -> h.seat(0, 0, 0));
        Check.throwsNoSuch("n 3", () -> h.seat(0, 3, 0));
        Check.throwsNoSuch("what -1", () -> h.seat(0, 1, -1));
        Check.throwsNoSuch("what 3", () -> h.seat(0, 1, 3));
        Check.due("COST", h.seat(0, 1, 0), 0);
        Check.due("row 2, column 1", h.seat(0, 1, 1), 21);
        Check.due("no second one", h.seat(0, 1, 2), NONE);
        Check.due("two: COST", h.seat(0, 2, 0), 0);
        Check.due("two: the least first", h.seat(0, 2, 1), 0);
        Check.due("two: the second", h.seat(0, 2, 2), 21);
        h.piece(0, 200, 170, 250, 0);
        h.piece(0, 100, 950, 900, 0);
        for (int i = 1; i < 3; i++) {
            h.join(flat(h, 0, BREAK, 40 * i), flat(h, i, BREAK, 40 * i));
        }
        // LOOSE 12, 12, 14: from 21 the ways are 0, 20, 800, of which 0, 8, 786 are above.
        Check.due("COST of three", h.seat(1, 1, 0), 794);
        Check.due("their SEAT", h.seat(1, 1, 1), 21);
        Check.due("COST of two SEATS", h.seat(2, 2, 0), 8 + 36);
        Check.due("the first", h.seat(2, 2, 1), 21);
        Check.due("the second", h.seat(2, 2, 2), 89);
        FlintHeap between = new FlintHeap();
        between.piece(0, 200, 500, 500, 0);
        Check.due("equal ones: the least", between.seat(0, 1, 1), 44);
        Check.due("its COST", between.seat(0, 1, 0), 38);
        Check.due("two equal ones: the least first", between.seat(0, 2, 1), 0);
        Check.due("two equal ones: the least second", between.seat(0, 2, 2), 44);
        FlintHeap corner = new FlintHeap();
        corner.piece(0, 200, 50, 50, 0);
        Check.due("two SEATS are two cells", corner.seat(0, 2, 1), 0);
        Check.due("two SEATS are two cells", corner.seat(0, 2, 2), 1);
    }

    private static void foot() {
        FlintHeap h = new FlintHeap();
        int[][] wrong = {{-1, 0, 1}, {1000, 0, 1}, {0, -1, 1}, {0, 1000, 1}, {0, 0, 0}, {0, 0, 100}};
        for (int[] w : wrong) {
            Check.due("a wrong FOOT", h.foot(w[0], w[1], w[2]), NONE);
        }
        for (int i = 1; i <= 20; i++) {
            Check.due("a FOOT more", h.foot(i % 2 * 999, (i + 1) % 2 * 999, i == 1 ? 99 : 1), i);
        }
        Check.due("a 21st", h.foot(0, 0, 1), NONE);
        // In order: the second FOOT is met only where the first one leaves the PIECE.
        FlintHeap o = new FlintHeap();
        o.piece(0, 100, 550, 550, 0);
        o.foot(500, 500, 99);
        o.foot(660, 569, 50);
        Check.due("by both FEET", o.look(0, 6), 559);
        Check.due("by both FEET", o.look(0, 7), 579);
    }

    private static void hour() {
        FlintHeap h = new FlintHeap();
        for (int i = 0; i < 5; i++) {
            h.piece(0, 50, 0, 0, i);
            flat(h, i, BREAK, 5);
            flat(h, i, BREAK, 50);
        }
        Check.due("hour(-1)", h.hour(-1), NONE);
        Check.due("hour(5)", h.hour(5), NONE);
        h.join(8 * 4, 8 * 2);
        Check.due("4 with 2", h.hour(4), 2);
        Check.due("2 by itself", h.hour(2), 2);
        h.join(8 * 3 + 1, 8 * 4 + 1);
        Check.due("and so on", h.hour(3), 2);
        h.join(8 * 1, 8 * 3);
        Check.due("and so on", h.hour(4), 1);
        Check.due("0 alone", h.hour(0), 0);
        h.part(0);
        Check.due("PARTED", h.hour(2), 2);
        Check.due("the others hang together", h.hour(4), 1);
    }

    private static void hands() {
        FlintHeap h = new FlintHeap();
        for (int i = 0; i < 5; i++) {
            plain(h);
            flat(h, i, SCAR, 20 * (i / 2));
            flat(h, i, BELLY, 20 * (i / 2));
        }
        h.near(0);
        h.join(0, 9);
        h.join(16, 25);
        Check.due("no such PIECE", h.hands(0, 5), NONE);
        Check.due("no such PIECE", h.hands(-1, 0), NONE);
        Check.due("one COBBLE", h.hands(0, 1), NONE);
        Check.due("one PIECE", h.hands(4, 4), NONE);
        Check.due("no faults", h.hands(0, 2), 0);
        h.marks(0, 0, 0, 0, false, 4);
        // f 4, n 2, g 0, m 2: 64 is not above 4 * 4 * 4.
        Check.due("just not", h.hands(0, 2), 0);
        h.marks(1, 0, 0, 0, false, 1);
        Check.due("TWO HANDS: 100 above 80", h.hands(1, 3), 1);
        Check.due("whichever is first", h.hands(2, 0), 1);
        h.marks(3, 0, 0, 0, false, 3);
        Check.due("5 and 3: 16 not above 128", h.hands(1, 3), 0);
        h.marks(1, 0, 0, 0, false, 9);
        // f 13, g 3: 400 above 256; f 13, g 4: 324 above 272; f 13, g 5: 256 not above 288.
        Check.due("13 and 3", h.hands(1, 3), 1);
        h.marks(2, 0, 0, 0, false, 1);
        Check.due("13 and 4", h.hands(1, 3), 1);
        h.marks(2, 0, 0, 0, false, 2);
        Check.due("13 and 5", h.hands(1, 3), 0);
        Check.due("one WHOLE is too few", h.hands(0, 4), 0);
        h.marks(0, 0, 0, 0, false, 9);
        h.marks(1, 0, 0, 0, false, 9);
        Check.due("one WHOLE is too few", h.hands(0, 4), 0);
        h.join(flat(h, 2, BREAK, 90), flat(h, 3, BREAK, 90));
        Check.due("two PIECES of one WHOLE", h.hands(0, 2), 0);
    }

    private static void blind() {
        FlintHeap h = new FlintHeap();
        Check.due("none yet", h.count(4), NONE);
        for (int i = 1; i <= 1000; i++) {
            Check.due("a trial", h.blind(i % 3 != 0), i);
            Check.due("of 1000 so many wrong", h.count(4), i / 3 * 1000 / i);
        }
        Check.due("1000 were", h.blind(false), NONE);
        Check.due("it stays", h.count(4), 333);
    }

    private static void count() {
        FlintHeap h = struck(3);
        h.part(1);
        h.blind(false);
        h.blind(true);
        h.days(12);
        flat(h, 1, SCAR, 5);
        flat(h, 1, SCAR, 5);
        h.cuts(9, 10, 3);
        Check.read(h, "let a = 1 ; let b = a ; bar when b ;");
        h.feed(0x2020202020202020L, 0, 0);
        int[] due = {4, 2, 1, 0, 500, 3, 8, 12, 1, 2};
        for (int what = 0; what < due.length; what++) {
            Check.due("count(" + what + ")", h.count(what), due[what]);
        }
        h.part(2);
        Check.due("a COBBLE of two PIECES", h.count(2), 1);
        h.part(0);
        Check.due("no COBBLE of two PIECES", h.count(2), 0);
        Check.due("count(-1)", h.count(-1), NONE);
        Check.due("count(10)", h.count(10), NONE);
    }
}
