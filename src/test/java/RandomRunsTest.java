import java.util.ArrayList;
import java.util.List;
import java.util.Random;
import java.util.function.IntSupplier;

/** Runs of calls, the same ones each time, on FlintHeap and on NaiveHeap: they must answer alike. */
public final class RandomRunsTest {
    private static final String[] PIECES_OF_TEXT = {"let", "bar", "doubt", "stone", "when", "and", "or", "not", "gap",
        "small", "great", "far", "layers", "burnt", "breaks", "colour", "grain", "spots", "fire", "size", "aa", "bb",
        "cc", "longname", "toolongname", "0", "1", "7", "8", "99", "100", "9999", "12345", "(", ")", "<", "=", "+", "-",
        "*", ";", "$", "A", "\n"};

    private final Random random;
    private final int profile;
    private final FlintHeap heap = new FlintHeap();
    private final NaiveHeap naive = new NaiveHeap();
    private final List<String> calls = new ArrayList<>();
    private final List<String> namesOfText = new ArrayList<>();
    private boolean right = true;
    static int texts = 0, goodTexts = 0, joinsMade = 0, rings = 0, quarrels = 0, changes = 0, opens = 0, twoHands = 0;

    private RandomRunsTest(long seed) {
        random = new Random(seed * 7919);
        // Seeds near one another draw alike at first, so the profile is not drawn.
        profile = (int) (seed % 5);
    }

    private int ask(String call, IntSupplier ours, IntSupplier theirs) {
        calls.add(call);
        int got = Check.answer(ours);
        int want = Check.answer(theirs);
        Check.due(call, got, want);
        if (got != want) {
            right = false;
            System.out.println("  the run: " + calls);
        }
        return got;
    }

    private int pick(int low, int high) {
        return low + random.nextInt(high - low + 1);
    }

    /** Mostly within, at times just beyond. */
    private int about(int low, int high) {
        if (random.nextInt(40) > 0) {
            return pick(low, high);
        }
        int[] edges = {low - 1, high + 1, low, high, Integer.MIN_VALUE, Integer.MAX_VALUE};
        return edges[random.nextInt(edges.length)];
    }

    private int aPiece() {
        return about(0, Math.max(0, naive.pieces.size() - 1));
    }

    private int aFace() {
        List<Integer> all = naive.allFaces();
        if (all.isEmpty() || random.nextInt(30) == 0) {
            return about(0, 319);
        }
        return all.get(random.nextInt(all.size()));
    }

    /** Two SCARS of one PIECE, if there are any. */
    private int[] twoScars() {
        List<int[]> pairs = new ArrayList<>();
        for (int a : naive.allFaces()) {
            for (int b : naive.allFaces()) {
                if (a != b && a / 8 == b / 8 && naive.f(a).sort == 0 && naive.f(b).sort == 0) {
                    pairs.add(new int[] {a, b});
                }
            }
        }
        return pairs.isEmpty() ? new int[] {aFace(), aFace()} : pairs.get(random.nextInt(pairs.size()));
    }

    private void run(int steps) {
        if (profile != 1) {
            near(400);
        }
        int startPieces = profile == 4 ? 0 : profile == 3 ? 30 : pick(2, 8);
        for (int i = 0; i < startPieces; i++) {
            piece();
            for (int k = pick(0, 4); k < 5; k++) {
                face();
            }
        }
        if (profile == 4) {
            strike(pick(3, 6));
        }
        for (int i = 0; i < steps && right; i++) {
            step();
            if (i % 60 == 59) {
                sweep();
            }
        }
    }

    /** COBBLES of not too many BLOWS, with CUTS that quarrel, RINGS and CHANGES. */
    private void strike(int total) {
        for (int i = 0; i < total; i++) {
            int size = pick(1, 60);
            int piece = ask("piece(-1, " + size + ", 10, 10, 0)", () -> heap.piece(-1, size, 10, 10, 0),
                    () -> naive.piece(-1, size, 10, 10, 0));
            face(piece, 1);
            for (int k = pick(1, 3); k > 0; k--) {
                face(piece, random.nextInt(3) == 0 ? 3 : 0);
            }
            marks(piece, random.nextBoolean() ? 0 : 9);
        }
        for (int i = 0; i < 2 * total; i++) {
            join();
            cuts();
            cuts();
        }
        for (int piece = 0; piece < total; piece++) {
            for (int what = 0; what <= 7; what++) {
                cobble(piece, what);
            }
            blow(piece, pick(0, 4));
        }
    }

    private void step() {
        int n = random.nextInt(100);
        // Without texts and with one t a heap grows great COBBLES.
        if (profile == 0 && n >= 38 && n < 43) n = 20;
        if (n < 4) piece();
        else if (n < 14) face();
        else if (n < 18) marks();
        else if (n < 34) join();
        else if (n < 38) part();
        else if (n < 42) text();
        else if (n < 43) near(about(0, 400));
        else if (n < 45) days();
        else if (n < 52) cuts();
        else if (n < 54) foot();
        else if (n < 55) blind();
        else look();
    }

    /** All that is told of one PIECE and its COBBLE, and of one JOIN. */
    private void sweep() {
        int piece = aPiece();
        for (int what = 0; what <= 8; what++) {
            lookAt(piece, what);
            cobble(piece, what);
        }
        for (int i = 0; i <= 12; i++) {
            blow(piece, i);
        }
        for (int i = 0; i < 8; i++) {
            for (int what = 0; what <= 4; what++) {
                of(8 * piece + i, what);
            }
        }
        int join = random.nextInt(Math.max(1, naive.joins.size()));
        for (int what = 0; what <= 7; what++) {
            joined(join, what);
        }
        for (int what = 0; what <= 9; what++) {
            count(what);
        }
    }

    private void days() {
        int n = random.nextInt(3) == 0 ? about(0, 100) : pick(0, 3);
        ask("days(" + n + ")", () -> heap.days(n), () -> naive.days(n));
    }

    private void near(int t) {
        ask("near(" + t + ")", () -> heap.near(t) ? 1 : 0, () -> naive.near(t) ? 1 : 0);
    }

    private void piece() {
        int stone = profile == 0 || profile == 2 ? -1 : about(-1, random.nextInt(3) == 0 ? 7 : -1);
        int size = about(1, 200);
        int x = about(0, 999);
        int y = random.nextBoolean() ? about(0, 999) : Math.abs(x % 1000);
        int layer = about(0, 4);
        ask("piece(" + stone + ", " + size + ", " + x + ", " + y + ", " + layer + ")",
                () -> heap.piece(stone, size, x, y, layer), () -> naive.piece(stone, size, x, y, layer));
    }

    private void marks() {
        marks(aPiece(), random.nextBoolean() ? 0 : about(0, 9));
    }

    private void marks(int piece, int faults) {
        int colour = about(0, 99);
        int grain = about(0, 99);
        int spots = about(0, 9);
        boolean burnt = random.nextInt(4) == 0;
        ask("marks(" + piece + ", " + colour + ", " + grain + ", " + spots + ", " + burnt + ", " + faults + ")",
                () -> heap.marks(piece, colour, grain, spots, burnt, faults) ? 1 : 0,
                () -> naive.marks(piece, colour, grain, spots, burnt, faults) ? 1 : 0);
    }

    private void face() {
        face(aPiece(), random.nextInt(10) < 5 ? 0 : about(0, 3));
    }

    private void face(int piece, int sort) {
        long rim = 0;
        int top = profile == 1 ? 99 : 9;
        for (int k = 0; k < 8; k++) {
            rim = rim << 8 | (random.nextInt(300) == 0 ? pick(99, 255) : random.nextInt(3) == 0 ? pick(0, top) : 5);
        }
        long itsRim = rim;
        int ripple = about(0, 7);
        ask("face(" + piece + ", " + sort + ", " + rim + ", " + ripple + ")",
                () -> heap.face(piece, sort, itsRim, ripple), () -> naive.face(piece, sort, itsRim, ripple));
    }

    private void join() {
        int a = aFace();
        for (int n = 0; n < 8 && naive.isFace(a) && naive.joinOf(a) != null; n++) {
            a = aFace();
        }
        join(a, pick(0, 3));
    }

    private void join(int a, int i) {
        int found = ask("candidate(" + a + ", " + i + ")", () -> heap.candidate(a, i), () -> naive.candidate(a, i));
        int b = found >= 0 && random.nextInt(3) > 0 ? found : freePartner(a);
        boolean turned = random.nextBoolean();
        int first = turned ? b : a;
        int second = turned ? a : b;
        int made = ask("join(" + first + ", " + second + ")", () -> heap.join(first, second),
                () -> naive.join(first, second));
        joinsMade += made >= 0 ? 1 : 0;
    }

    /** A FACE in no JOIN that may meet one, or any. */
    private int freePartner(int a) {
        List<Integer> those = new ArrayList<>();
        for (int b : naive.allFaces()) {
            if (naive.isFace(a) && naive.joinOf(b) == null && naive.mayMeet(a, b)) {
                those.add(b);
            }
        }
        return those.isEmpty() || random.nextInt(8) == 0 ? aFace() : those.get(random.nextInt(those.size()));
    }

    private void part() {
        int join = about(0, Math.max(0, naive.joins.size() - 1));
        ask("part(" + join + ")", () -> heap.part(join) ? 1 : 0, () -> naive.part(join) ? 1 : 0);
    }

    private void text() {
        StringBuilder all = new StringBuilder();
        if (random.nextInt(3) == 0) {
            for (int i = 0; i < pick(0, 30); i++) {
                all.append(PIECES_OF_TEXT[random.nextInt(PIECES_OF_TEXT.length)]).append(random.nextInt(5) > 0 ? " " : "");
            }
        } else {
            int lines = random.nextInt(12) == 0 ? 26 : pick(0, 9);
            namesOfText.clear();
            for (int i = 0; i < lines; i++) {
                line(all, lines > 20);
            }
            if (random.nextInt(5) == 0 && all.length() > 0) {
                all.setCharAt(random.nextInt(all.length()), "() ;<=a1*-+\n".charAt(random.nextInt(12)));
            }
        }
        feed(all.toString());
        int fault = ask("text()", heap::text, naive::text);
        texts++;
        goodTexts += fault == 0 ? 1 : 0;
    }

    private void line(StringBuilder all, boolean shortly) {
        int kind = random.nextInt(5);
        if (kind < 2) {
            String name = random.nextInt(40) == 0 ? "gap" : "n" + (char) ('a' + random.nextInt(26));
            all.append("let ").append(name).append(" = ");
            namesOfText.add(name);
        } else if (kind == 2) {
            all.append(random.nextInt(3) > 0 ? "doubt 1 when " : "bar when 40 < gap and ");
        } else if (kind == 3) {
            all.append("doubt ").append(random.nextInt(20) == 0 ? pick(0, 120) : pick(1, 99)).append(" when ");
        } else {
            all.append("stone ").append(random.nextInt(20) == 0 ? pick(0, 12) : pick(0, 7)).append("when ");
        }
        if (shortly) {
            all.append(random.nextInt(3));
        } else {
            expression(all, pick(1, 4), 0);
        }
        all.append(" ;").append(random.nextBoolean() ? "\n" : " ");
    }

    private void expression(StringBuilder all, int parts, int depth) {
        boolean compared = false;
        for (int i = 0; i < parts; i++) {
            if (i > 0) {
                // A second comparison can't stand before and, or: that is tried seldom.
                String[] signs = {" and ", " or ", " < ", " = ", "+", " - ", "*", " + "};
                int sign = compared && random.nextInt(40) > 0 ? random.nextInt(2) : random.nextInt(signs.length);
                compared = sign == 2 || sign == 3 || compared && sign > 3;
                all.append(signs[sign]);
            }
            int n = random.nextInt(12);
            if (n < 2) {
                all.append("not ");
            }
            if (n == 3 && depth < 6) {
                all.append("( ");
                expression(all, pick(1, 3), depth + 1);
                all.append(" )");
            } else if (n < 6) {
                all.append(pick(0, random.nextBoolean() ? 9999 : 30)).append(' ');
            } else if (n < 8) {
                boolean told = !namesOfText.isEmpty() && random.nextInt(20) > 0;
                all.append(told ? namesOfText.get(random.nextInt(namesOfText.size())) : random.nextInt(30) > 0 ? "4" : "nz");
            } else {
                all.append(PIECES_OF_TEXT[8 + random.nextInt(12)]);
            }
        }
    }

    private void feed(String text) {
        for (int from = 0; from < text.length(); from += 24) {
            long a = Check.eight(text, from);
            long b = Check.eight(text, from + 8);
            long c = Check.eight(text, from + 16);
            ask("feed(" + a + ", " + b + ", " + c + ")", () -> heap.feed(a, b, c), () -> naive.feed(a, b, c));
        }
        if (random.nextInt(10) == 0) {
            long a = random.nextLong();
            ask("feed(" + a + ", 0, 0)", () -> heap.feed(a, 0, 0), () -> naive.feed(a, 0, 0));
        }
    }

    private void cuts() {
        int[] scars = twoScars();
        int a = random.nextInt(15) == 0 ? aFace() : scars[0];
        int b = random.nextInt(15) == 0 ? aFace() : scars[1];
        int weight = about(0, 9);
        ask("cuts(" + a + ", " + b + ", " + weight + ")", () -> heap.cuts(a, b, weight) ? 1 : 0,
                () -> naive.cuts(a, b, weight) ? 1 : 0);
    }

    private void foot() {
        int x = about(0, 999);
        int y = random.nextBoolean() ? about(0, 999) : Math.abs(x % 1000);
        int strength = about(1, 99);
        ask("foot(" + x + ", " + y + ", " + strength + ")", () -> heap.foot(x, y, strength),
                () -> naive.foot(x, y, strength));
    }

    private void blind() {
        boolean so = random.nextBoolean();
        ask("blind(" + so + ")", () -> heap.blind(so), () -> naive.blind(so));
    }

    private void look() {
        int n = random.nextInt(12);
        int piece = aPiece();
        int face = aFace();
        int other = aFace();
        if (n == 0) {
            int what = about(0, 3);
            ask("meet(" + face + ", " + other + ", " + what + ")", () -> heap.meet(face, other, what),
                    () -> naive.meet(face, other, what));
        } else if (n == 1) {
            joined(about(0, Math.max(0, naive.joins.size() - 1)), about(0, 7));
        } else if (n < 4) {
            lookAt(piece, about(0, 8));
        } else if (n == 4) {
            of(face, about(0, 4));
        } else if (n == 5) {
            int day = about(0, naive.now);
            ask("asOf(" + piece + ", " + day + ")", () -> heap.asOf(piece, day), () -> naive.asOf(piece, day));
        } else if (n < 8) {
            cobble(piece, about(0, 7));
        } else if (n == 8) {
            blow(piece, about(0, 12));
        } else if (n == 9) {
            int seats = about(1, random.nextInt(4) == 0 ? 2 : 1);
            int what = about(0, 2);
            ask("seat(" + piece + ", " + seats + ", " + what + ")", () -> heap.seat(piece, seats, what),
                    () -> naive.seat(piece, seats, what));
        } else if (n == 10) {
            int layer = about(0, 4);
            ask("hour(" + layer + ")", () -> heap.hour(layer), () -> naive.hour(layer));
            int second = aPiece();
            int got = ask("hands(" + piece + ", " + second + ")", () -> heap.hands(piece, second),
                    () -> naive.hands(piece, second));
            twoHands += got == 1 ? 1 : 0;
        } else {
            count(about(0, 9));
        }
    }

    private void lookAt(int piece, int what) {
        ask("look(" + piece + ", " + what + ")", () -> heap.look(piece, what), () -> naive.look(piece, what));
    }

    private void cobble(int piece, int what) {
        int got = ask("cobble(" + piece + ", " + what + ")", () -> heap.cobble(piece, what),
                () -> naive.cobble(piece, what));
        quarrels += what == 4 && got > 0 ? 1 : 0;
        rings += what == 5 && got == 1 ? 1 : 0;
        changes += what == 6 && got > 0 ? 1 : 0;
    }

    private void blow(int piece, int i) {
        ask("blow(" + piece + ", " + i + ")", () -> heap.blow(piece, i), () -> naive.blow(piece, i));
    }

    private void of(int face, int what) {
        ask("of(" + face + ", " + what + ")", () -> heap.of(face, what), () -> naive.of(face, what));
    }

    private void joined(int join, int what) {
        int got = ask("joined(" + join + ", " + what + ")", () -> heap.joined(join, what),
                () -> naive.joined(join, what));
        opens += what == 5 && got == 1 ? 1 : 0;
    }

    private void count(int what) {
        ask("count(" + what + ")", () -> heap.count(what), () -> naive.count(what));
    }

    public static void main(String[] args) {
        long from = args.length > 0 ? Long.parseLong(args[0]) : 1;
        long runs = args.length > 1 ? Long.parseLong(args[1]) : 300;
        for (long seed = from; seed < from + runs; seed++) {
            new RandomRunsTest(seed).run(300);
        }
        System.out.println("texts " + texts + " of them good " + goodTexts + ", joins " + joinsMade + ", rings " + rings
                + ", quarrels " + quarrels + ", changes " + changes + ", open " + opens + ", two hands " + twoHands);
        Check.end("RandomRunsTest");
    }
}
