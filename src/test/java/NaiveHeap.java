import java.util.ArrayList;
import java.util.HashMap;
import java.util.List;
import java.util.Map;
import java.util.NoSuchElementException;
import java.util.TreeSet;

/** The document once more, word for word and slowly, with the Java library: what FlintHeap is held against. */
final class NaiveHeap {
    static final class P {
        int stone, size, x, y, layer, colour, grain, spots, faults;
        boolean burnt;
        List<F> faces = new ArrayList<>();
        int loose() { return 10 + 400 / size; }
    }

    static final class F {
        int sort, ripple;
        int[] rim = new int[8];
    }

    static final class J {
        int a, b, turn, day, parted = -1;
    }

    interface Expr { int of(Map<String, Integer> words, Map<String, Expr> names); }

    static final class Line {
        String kind;
        int n;
        Expr e;
        String name;
    }

    int now, t = 20, trials, wrongs;
    List<P> pieces = new ArrayList<>();
    List<J> joins = new ArrayList<>();
    Map<String, Integer> cuts = new HashMap<>();
    List<int[]> feet = new ArrayList<>();
    StringBuilder tape = new StringBuilder();
    List<Line> lines = new ArrayList<>();

    int days(int n) {
        if (n < 0 || n > 100 || now + n > 999) return -1;
        return now += n;
    }

    int piece(int stone, int size, int x, int y, int layer) {
        if (stone < -1 || stone > 7 || size < 1 || size > 200 || x < 0 || x > 999 || y < 0 || y > 999
                || layer < 0 || layer > 4 || pieces.size() == 40) return -1;
        P p = new P();
        p.stone = stone; p.size = size; p.x = x; p.y = y; p.layer = layer;
        pieces.add(p);
        return pieces.size() - 1;
    }

    boolean isPiece(int p) { return p >= 0 && p < pieces.size(); }
    boolean isFace(int f) { return f >= 0 && isPiece(f / 8) && f % 8 < pieces.get(f / 8).faces.size(); }
    F f(int f) { return pieces.get(f / 8).faces.get(f % 8); }
    P p(int f) { return pieces.get(f / 8); }

    boolean marks(int piece, int colour, int grain, int spots, boolean burnt, int faults) {
        if (!isPiece(piece) || colour < 0 || colour > 99 || grain < 0 || grain > 99 || spots < 0 || spots > 9
                || faults < 0 || faults > 9) return false;
        P p = pieces.get(piece);
        p.colour = colour; p.grain = grain; p.spots = spots; p.burnt = burnt; p.faults = faults;
        return true;
    }

    int face(int piece, int sort, long rim, int ripple) {
        if (!isPiece(piece) || sort < 0 || sort > 3 || ripple < 0 || ripple > 7) return -1;
        F f = new F();
        f.sort = sort; f.ripple = ripple;
        for (int k = 7; k >= 0; k--) {
            f.rim[k] = (int) (rim & 0xff);
            if (f.rim[k] > 99) return -1;
            rim >>= 8;
        }
        List<F> faces = pieces.get(piece).faces;
        if (faces.size() == 8) return -1;
        for (F g : faces) if (sort == 1 && g.sort == 1) return -1;
        faces.add(f);
        return faces.size() - 1;
    }

    int feed(long a, long b, long c) {
        for (long v : new long[] {a, b, c}) {
            for (int k = 7; k >= 0; k--) {
                int s = (int) ((v >> (8 * k)) & 0xff);
                if ((s == 10 || s >= 32 && s <= 126) && tape.length() < 1000) tape.append((char) s);
            }
        }
        return tape.length();
    }

    // ---- the text

    static final class Fault extends RuntimeException {
        private static final long serialVersionUID = 1;
        final int fault;
        Fault(int kind, int place) { fault = kind + 16 * place; }
    }

    static final List<String> PART_WORDS = List.of("gap", "small", "great", "far", "layers", "burnt", "breaks",
            "colour", "grain", "spots", "fire", "size");
    static final List<String> KEY_WORDS = List.of("let", "bar", "doubt", "stone", "when", "and", "or", "not");

    private List<String> tokens;
    private List<Integer> places;
    private int at;
    private List<String> names;

    int text() {
        String all = tape.toString();
        tape.setLength(0);
        tokenise(all);
        names = new ArrayList<>();
        at = 0;
        List<Line> read = new ArrayList<>();
        try {
            while (!peek().equals("END")) {
                read.add(line(read.size()));
            }
        } catch (Fault f) {
            return f.fault;
        }
        lines = read;
        return 0;
    }

    private void tokenise(String all) {
        tokens = new ArrayList<>();
        places = new ArrayList<>();
        java.util.regex.Matcher m = java.util.regex.Pattern.compile("[a-z]+|[0-9]+|[()<=+*;-]|[^\\n ]").matcher(all);
        while (m.find()) {
            String s = m.group();
            boolean none = s.matches("[a-z]{9,}|[0-9]{5,}|[^a-z0-9()<=+*;-]");
            tokens.add(none ? "NONE" : s);
            places.add(m.start());
        }
        tokens.add("END");
        places.add(all.length());
    }

    private String peek() { return tokens.get(at); }
    private Fault fault(int kind) { return new Fault(kind, places.get(at)); }
    private boolean isName(String s) {
        return s.matches("[a-z]+") && !PART_WORDS.contains(s) && !KEY_WORDS.contains(s);
    }
    private boolean isNumber(String s) { return s.matches("[0-9]+"); }
    private String take(String wanted) {
        if (!peek().equals(wanted)) throw fault(1);
        return tokens.get(at++);
    }

    private Line line(int ahead) {
        Line line = new Line();
        line.kind = peek();
        if (!List.of("let", "bar", "doubt", "stone").contains(line.kind)) throw fault(1);
        if (ahead == 24) throw fault(5);
        at++;
        if (line.kind.equals("let")) {
            line.name = peek();
            if (!isName(line.name)) throw fault(1);
            if (names.contains(line.name)) throw fault(3);
            if (names.size() == 8) throw fault(5);
            at++;
            take("=");
        } else {
            if (!line.kind.equals("bar")) {
                if (!isNumber(peek())) throw fault(1);
                line.n = Integer.parseInt(peek());
                boolean fits = line.kind.equals("doubt") ? line.n >= 1 && line.n <= 99 : line.n <= 7;
                if (!fits) throw fault(4);
                at++;
            }
            take("when");
        }
        line.e = expr(0);
        take(";");
        if (line.name != null) names.add(line.name);
        return line;
    }

    private Expr expr(int depth) {
        Expr left = test(depth);
        while (peek().equals("and") || peek().equals("or")) {
            boolean and = tokens.get(at++).equals("and");
            Expr a = left;
            Expr b = test(depth);
            left = (w, n) -> {
                boolean x = a.of(w, n) != 0;
                boolean y = b.of(w, n) != 0;
                return (and ? x & y : x | y) ? 1 : 0;
            };
        }
        return left;
    }

    private Expr test(int depth) {
        Expr a = sum(depth);
        if (peek().equals("<")) {
            at++;
            Expr b = sum(depth);
            return (w, n) -> a.of(w, n) < b.of(w, n) ? 1 : 0;
        }
        if (peek().equals("=")) {
            at++;
            Expr b = sum(depth);
            return (w, n) -> a.of(w, n) == b.of(w, n) ? 1 : 0;
        }
        return a;
    }

    private Expr sum(int depth) {
        Expr left = term(depth);
        while (peek().equals("+") || peek().equals("-")) {
            int sign = tokens.get(at++).equals("+") ? 1 : -1;
            Expr a = left;
            Expr b = term(depth);
            left = (w, n) -> a.of(w, n) + sign * b.of(w, n);
        }
        return left;
    }

    private Expr term(int depth) {
        Expr left = partOf(depth);
        while (peek().equals("*")) {
            at++;
            Expr a = left;
            Expr b = partOf(depth);
            left = (w, n) -> a.of(w, n) * b.of(w, n);
        }
        return left;
    }

    private Expr partOf(int depth) {
        String s = peek();
        boolean stands = isNumber(s) || PART_WORDS.contains(s) || isName(s) || s.equals("not") || s.equals("(");
        if (!stands) throw fault(1);
        if (isName(s) && !names.contains(s)) throw fault(2);
        if (depth == 5) throw fault(5);
        at++;
        if (isNumber(s)) {
            int value = Integer.parseInt(s);
            return (w, n) -> value;
        }
        if (PART_WORDS.contains(s)) return (w, n) -> w.getOrDefault(s, 0);
        if (s.equals("not")) {
            Expr a = partOf(depth + 1);
            return (w, n) -> a.of(w, n) == 0 ? 1 : 0;
        }
        if (s.equals("(")) {
            Expr a = expr(depth + 1);
            take(")");
            return a;
        }
        return (w, n) -> n.get(s).of(w, n);
    }

    private Map<String, Expr> namesTold() {
        Map<String, Expr> told = new HashMap<>();
        for (Line l : lines) if (l.name != null) told.put(l.name, l.e);
        return told;
    }

    // ---- meetings

    int sumAt(F f, F g, int r) {
        int sum = 0;
        for (int k = 0; k < 8; k++) sum += Math.abs(f.rim[((r - k) % 8 + 8) % 8] - g.rim[k]);
        int from = ((r - f.ripple) % 8 + 8) % 8;
        int way = Math.abs(from - g.ripple);
        return sum + 5 * Math.min(way, 8 - way);
    }

    int gap(int a, int b) {
        int least = Integer.MAX_VALUE;
        for (int r = 0; r < 8; r++) least = Math.min(least, sumAt(f(a), f(b), r));
        return least;
    }

    int turn(int a, int b) {
        for (int r = 0; r < 8; r++) if (sumAt(f(a), f(b), r) == gap(a, b)) return r;
        throw new AssertionError();
    }

    int stone(int piece) {
        P p = pieces.get(piece);
        if (p.stone != -1) return p.stone;
        Map<String, Integer> w = Map.of("colour", p.colour, "grain", p.grain, "spots", p.spots,
                "fire", p.burnt ? 1 : 0, "size", p.size);
        for (Line l : lines) if (l.kind.equals("stone") && l.e.of(w, namesTold()) != 0) return l.n;
        return -1;
    }

    Map<String, Integer> meeting(int a, int b) {
        P p = p(a), q = p(b);
        boolean breaks = f(a).sort == 3;
        P small = breaks ? (p.size < q.size ? p : q) : f(a).sort == 1 ? p : q;
        P great = small == p ? q : p;
        int burnt = (p.burnt ? 1 : 0) + (q.burnt ? 1 : 0);
        Map<String, Integer> w = new HashMap<>();
        w.put("gap", gap(a, b));
        w.put("small", small.size);
        w.put("great", great.size);
        w.put("far", Math.max(Math.abs(p.x - q.x), Math.abs(p.y - q.y)));
        w.put("layers", Math.abs(p.layer - q.layer));
        w.put("burnt", burnt);
        w.put("breaks", breaks ? 1 : 0);
        w.put("colour", Math.abs(p.colour - q.colour));
        w.put("grain", Math.abs(p.grain - q.grain));
        w.put("spots", Math.abs(p.spots - q.spots));
        w.put("fire", burnt);
        w.put("size", Math.abs(p.size - q.size));
        return w;
    }

    boolean mayMeet(int a, int b) {
        if (a / 8 == b / 8) return false;
        int s = f(a).sort, u = f(b).sort;
        boolean sorts = s == 0 && u == 1 || s == 1 && u == 0 || s == 3 && u == 3;
        int x = stone(a / 8), y = stone(b / 8);
        if (!sorts || x != -1 && y != -1 && x != y) return false;
        int limit = t;
        if (p(a).burnt) limit += 10;
        if (p(b).burnt) limit += 10;
        if (gap(a, b) > limit) return false;
        Map<String, Integer> w = meeting(a, b);
        for (Line l : lines) if (l.kind.equals("bar") && l.e.of(w, namesTold()) != 0) return false;
        return true;
    }

    int doubt(int a, int b) {
        int sum = 0;
        Map<String, Integer> w = meeting(a, b);
        for (Line l : lines) if (l.kind.equals("doubt") && l.e.of(w, namesTold()) != 0) sum += l.n;
        return sum;
    }

    boolean near(int n) {
        if (n < 0 || n > 400) return false;
        t = n;
        return true;
    }

    int meet(int a, int b, int what) {
        if (!isFace(a) || !isFace(b) || a / 8 == b / 8) throw new NoSuchElementException();
        if (what == 0) return gap(a, b);
        if (what == 1) return turn(a, b);
        if (what == 2) return mayMeet(a, b) ? 1 : 0;
        if (what == 3) return mayMeet(a, b) ? doubt(a, b) : 0;
        throw new NoSuchElementException();
    }

    List<Integer> allFaces() {
        List<Integer> all = new ArrayList<>();
        for (int f = 0; f < 320; f++) if (isFace(f)) all.add(f);
        return all;
    }

    int candidate(int face, int i) {
        if (!isFace(face)) return -1;
        List<Integer> those = new ArrayList<>();
        for (int f : allFaces()) if (mayMeet(face, f)) those.add(f);
        return i >= 0 && i < those.size() ? those.get(i) : -1;
    }

    J joinOf(int face) {
        for (J j : joins) if (j.parted == -1 && (j.a == face || j.b == face)) return j;
        return null;
    }

    int join(int a, int b) {
        if (!isFace(a) || !isFace(b) || !mayMeet(a, b) || joinOf(a) != null || joinOf(b) != null
                || joins.size() == 80) return -1;
        J j = new J();
        j.a = a; j.b = b; j.turn = turn(a, b); j.day = now;
        joins.add(j);
        return joins.size() - 1;
    }

    boolean part(int join) {
        if (join < 0 || join >= joins.size() || joins.get(join).parted != -1) return false;
        joins.get(join).parted = now;
        return true;
    }

    // ---- what hangs together

    List<J> standing() {
        List<J> those = new ArrayList<>();
        for (J j : joins) if (j.parted == -1) those.add(j);
        return those;
    }

    TreeSet<Integer> group(int piece, List<J> by) {
        TreeSet<Integer> all = new TreeSet<>();
        all.add(piece);
        boolean more = true;
        while (more) {
            more = false;
            for (J j : by) {
                if (all.contains(j.a / 8)) more |= all.add(j.b / 8);
                if (all.contains(j.b / 8)) more |= all.add(j.a / 8);
            }
        }
        return all;
    }

    TreeSet<Integer> cobbleOf(int piece) { return group(piece, standing()); }

    TreeSet<Integer> wholeOf(int piece) {
        List<J> breaks = new ArrayList<>();
        for (J j : standing()) if (f(j.a).sort == 3) breaks.add(j);
        return group(piece, breaks);
    }

    int whole(int piece) { return wholeOf(piece).first(); }

    Map<Integer, Integer> turns(int piece) {
        Map<Integer, Integer> turns = new HashMap<>();
        List<Integer> found = new ArrayList<>();
        found.add(cobbleOf(piece).first());
        turns.put(found.get(0), 0);
        for (int i = 0; i < found.size(); i++) {
            int p = found.get(i);
            for (J j : standing()) {
                if (j.a / 8 != p && j.b / 8 != p) continue;
                int q = j.a / 8 == p ? j.b / 8 : j.a / 8;
                if (turns.containsKey(q)) continue;
                turns.put(q, Math.floorMod(j.turn - turns.get(p), 8));
                found.add(q);
            }
        }
        return turns;
    }

    boolean open(J j) {
        if (j.parted != -1) return false;
        Map<Integer, Integer> turns = turns(j.a / 8);
        return Math.floorMod(turns.get(j.a / 8) + turns.get(j.b / 8) - j.turn, 8) != 0;
    }

    int joined(int join, int what) {
        if (join < 0 || join >= joins.size()) throw new NoSuchElementException();
        J j = joins.get(join);
        switch (what) {
            case 0: return j.a;
            case 1: return j.b;
            case 2: return j.turn;
            case 3: return j.day;
            case 4: return j.parted;
            case 5: return open(j) ? 1 : 0;
            case 6:
                if (j.parted != -1) return 0;
                TreeSet<Integer> rivals = new TreeSet<>();
                for (int f : allFaces()) if (mayMeet(j.a, f) || mayMeet(j.b, f)) rivals.add(f);
                rivals.remove(j.a);
                rivals.remove(j.b);
                return rivals.size();
            case 7: return doubt(j.a, j.b);
            default: throw new NoSuchElementException();
        }
    }

    int look(int piece, int what) {
        if (!isPiece(piece)) throw new NoSuchElementException();
        P p = pieces.get(piece);
        int[] went = what >= 5 && what <= 7 ? went(piece) : null;
        switch (what) {
            case 0: return stone(piece);
            case 1: return cobbleOf(piece).first();
            case 2: return whole(piece);
            case 3: return turns(piece).get(piece);
            case 4: return p.faces.size();
            case 5: return Math.abs(p.x - went[0]) <= p.loose() && Math.abs(p.y - went[1]) <= p.loose() ? 1 : 0;
            case 6: return went[0];
            case 7: return went[1];
            case 8: return p.loose();
            default: throw new NoSuchElementException();
        }
    }

    boolean hole(int face) { return f(face).sort == 0 && joinOf(face) == null && cobbleOf(face / 8).size() >= 2; }

    int blowOfScar(int scar) {
        if (f(scar).sort != 0 || cobbleOf(scar / 8).size() < 2) return -1;
        J j = joinOf(scar);
        if (j == null) return 100 + scar;
        return whole((j.a == scar ? j.b : j.a) / 8);
    }

    int of(int face, int what) {
        if (!isFace(face)) throw new NoSuchElementException();
        J j = joinOf(face);
        int sum = 0;
        for (int m : f(face).rim) sum += m;
        switch (what) {
            case 0: return f(face).sort;
            case 1: return j == null ? -1 : j.a == face ? j.b : j.a;
            case 2: return blowOfScar(face);
            case 3: return hole(face) ? Math.max(0, sum - t) : -1;
            case 4: return hole(face) ? sum + t : -1;
            default: throw new NoSuchElementException();
        }
    }

    int asOf(int piece, int day) {
        if (!isPiece(piece) || day < 0 || day > now) return -1;
        List<J> then = new ArrayList<>();
        for (J j : joins) {
            boolean parted = j.parted != -1 && j.parted <= day;
            if (j.day <= day && !parted) then.add(j);
        }
        return group(piece, then).first();
    }

    boolean cuts(int a, int b, int weight) {
        if (!isFace(a) || !isFace(b) || a == b || a / 8 != b / 8 || f(a).sort != 0 || f(b).sort != 0
                || weight < 0 || weight > 9) return false;
        cuts.remove(a + " " + b);
        cuts.remove(b + " " + a);
        if (weight > 0) cuts.put(a + " " + b, weight);
        return true;
    }

    // ---- blows

    List<Integer> holes(TreeSet<Integer> cobble) {
        List<Integer> holes = new ArrayList<>();
        for (int f : allFaces()) if (cobble.contains(f / 8) && hole(f)) holes.add(100 + f);
        return holes;
    }

    TreeSet<Integer> wholes(TreeSet<Integer> cobble) {
        TreeSet<Integer> wholes = new TreeSet<>();
        for (int p : cobble) wholes.add(whole(p));
        return wholes;
    }

    private List<Integer> blows;
    private List<int[]> sure;
    private List<int[]> told;
    private Map<String, Integer> memo;

    /** The ORDER, or null: a RING, more than 12; quarrel[0] is the LEAST QUARREL. */
    List<Integer> order(TreeSet<Integer> cobble, int[] quarrel) {
        blows = new ArrayList<>(wholes(cobble));
        blows.addAll(holes(cobble));
        if (blows.size() > 12) return null;
        sure = new ArrayList<>();
        told = new ArrayList<>();
        for (int w : wholes(cobble)) {
            boolean struck = false;
            for (int f : allFaces()) if (wholeOf(w).contains(f / 8) && f(f).sort == 1 && joinOf(f) != null) struck = true;
            for (int f : allFaces()) {
                if (struck && wholeOf(w).contains(f / 8) && f(f).sort == 0 && blowOfScar(f) != w) {
                    sure.add(new int[] {blowOfScar(f), w});
                }
            }
        }
        for (Map.Entry<String, Integer> c : cuts.entrySet()) {
            int a = Integer.parseInt(c.getKey().split(" ")[0]);
            int b = Integer.parseInt(c.getKey().split(" ")[1]);
            if (!cobble.contains(a / 8) || blowOfScar(a) == blowOfScar(b)) continue;
            told.add(new int[] {blowOfScar(b), blowOfScar(a), c.getValue()});
        }
        if (blows.size() <= 6) {
            best = null;
            bestCost = Integer.MAX_VALUE;
            permute(new ArrayList<>());
            quarrel[0] = bestCost;
            return best;
        }
        memo = new HashMap<>();
        int least = rest(new TreeSet<>());
        if (least >= 1000000) return null;
        quarrel[0] = least;
        List<Integer> order = new ArrayList<>();
        TreeSet<Integer> done = new TreeSet<>();
        while (order.size() < blows.size()) {
            for (int b : blows) {
                if (done.contains(b) || !mayFollow(done, b)) continue;
                TreeSet<Integer> more = new TreeSet<>(done);
                more.add(b);
                if (broken(done, b) + rest(more) == rest(done)) {
                    order.add(b);
                    done = more;
                    break;
                }
            }
        }
        return order;
    }

    private List<Integer> best;
    private int bestCost;

    /** All permutations in rising order: the first with the least sum stays. */
    private void permute(List<Integer> so) {
        if (so.size() == blows.size()) {
            for (int[] s : sure) if (so.indexOf(s[0]) > so.indexOf(s[1])) return;
            int cost = 0;
            for (int[] c : told) if (so.indexOf(c[0]) > so.indexOf(c[1])) cost += c[2];
            if (cost < bestCost) {
                bestCost = cost;
                best = new ArrayList<>(so);
            }
            return;
        }
        for (int b : blows) {
            if (so.contains(b)) continue;
            so.add(b);
            permute(so);
            so.remove(so.size() - 1);
        }
    }

    private boolean mayFollow(TreeSet<Integer> done, int b) {
        for (int[] s : sure) if (s[1] == b && !done.contains(s[0])) return false;
        return true;
    }

    private int broken(TreeSet<Integer> done, int b) {
        int cost = 0;
        for (int[] c : told) if (c[1] == b && !done.contains(c[0])) cost += c[2];
        return cost;
    }

    private int rest(TreeSet<Integer> done) {
        if (done.size() == blows.size()) return 0;
        Integer known = memo.get(done.toString());
        if (known != null) return known;
        int least = 1000000;
        for (int b : blows) {
            if (done.contains(b) || !mayFollow(done, b)) continue;
            TreeSet<Integer> more = new TreeSet<>(done);
            more.add(b);
            least = Math.min(least, broken(done, b) + rest(more));
        }
        memo.put(done.toString(), least);
        return least;
    }

    int faults(TreeSet<Integer> some) {
        int sum = 0;
        for (int p : some) sum += pieces.get(p).faults;
        return sum;
    }

    int change(TreeSet<Integer> cobble) {
        List<Integer> order = order(cobble, new int[1]);
        if (order == null) return -1;
        List<Integer> w = new ArrayList<>();
        for (int b : order) if (b < 100) w.add(faults(wholeOf(b)));
        int best = -1;
        long up = 0, down = 1;
        boolean hands = false;
        for (int n = 2; w.size() - n >= 2; n++) {
            int m = w.size() - n;
            long f = 0, g = 0;
            for (int i = 0; i < w.size(); i++) {
                if (i < n) f += w.get(i); else g += w.get(i);
            }
            if (f + g == 0) continue;
            long way = (f * m - g * n) * (f * m - g * n);
            long under = (f + g) * n * m;
            if (best == -1 || way * down > up * under) {
                best = n;
                up = way;
                down = under;
                hands = way > 4 * (f + g) * n * m;
            }
        }
        return hands ? best : -1;
    }

    int cobble(int piece, int what) {
        if (!isPiece(piece)) throw new NoSuchElementException();
        TreeSet<Integer> cobble = cobbleOf(piece);
        int[] quarrel = new int[1];
        boolean few = wholes(cobble).size() + holes(cobble).size() <= 12;
        int open = 0;
        for (J j : joins) if (open(j) && cobble.contains(j.a / 8)) open++;
        switch (what) {
            case 0: return cobble.size();
            case 1: return wholes(cobble).size();
            case 2: return holes(cobble).size();
            case 3: return open;
            case 4: return order(cobble, quarrel) == null ? -1 : quarrel[0];
            case 5: return few && order(cobble, quarrel) == null ? 1 : 0;
            case 6: return change(cobble);
            case 7: return faults(cobble);
            default: throw new NoSuchElementException();
        }
    }

    int blow(int piece, int i) {
        if (!isPiece(piece)) return -1;
        List<Integer> order = order(cobbleOf(piece), new int[1]);
        return order == null || i < 0 || i >= order.size() ? -1 : order.get(i);
    }

    // ---- the ground

    int cost(TreeSet<Integer> cobble, int... cells) {
        int sum = 0;
        for (int p : cobble) {
            int nearest = Integer.MAX_VALUE;
            for (int cell : cells) {
                int row = cell / 10, column = cell % 10;
                int way = Math.max(Math.abs(pieces.get(p).x - (100 * column + 50)),
                        Math.abs(pieces.get(p).y - (100 * row + 50)));
                nearest = Math.min(nearest, way);
            }
            sum += Math.max(0, nearest - pieces.get(p).loose());
        }
        return sum;
    }

    int[] seats(int piece, int n) {
        TreeSet<Integer> cobble = cobbleOf(piece);
        int[] best = {Integer.MAX_VALUE, -1, -1};
        for (int a = 0; a < 100; a++) {
            if (n == 1 && cost(cobble, a) < best[0]) best = new int[] {cost(cobble, a), a, -1};
            for (int b = a + 1; n == 2 && b < 100; b++) {
                int cost = cost(cobble, a, b);
                if (cost < best[0]) best = new int[] {cost, a, b};
            }
        }
        return best;
    }

    int seat(int piece, int n, int what) {
        if (!isPiece(piece) || n < 1 || n > 2 || what < 0 || what > 2) throw new NoSuchElementException();
        return seats(piece, n)[what];
    }

    int foot(int x, int y, int strength) {
        if (x < 0 || x > 999 || y < 0 || y > 999 || strength < 1 || strength > 99 || feet.size() == 20) return -1;
        feet.add(new int[] {x, y, strength});
        return feet.size();
    }

    int[] went(int piece) {
        int cell = seats(piece, 1)[1];
        int x = 100 * (cell % 10) + 50, y = 100 * (cell / 10) + 50;
        for (int[] foot : feet) {
            if (Math.abs(x - foot[0]) > 100 || Math.abs(y - foot[1]) > 100) continue;
            int by = foot[2] * 20 / pieces.get(piece).size;
            x += x < foot[0] ? -by : by;
            y += y < foot[1] ? -by : by;
            x = Math.max(0, Math.min(999, x));
            y = Math.max(0, Math.min(999, y));
        }
        return new int[] {x, y};
    }

    int hour(int layer) {
        if (layer < 0 || layer > 4) return -1;
        TreeSet<Integer> one = new TreeSet<>();
        one.add(layer);
        for (int i = 0; i < 5; i++) {
            for (J j : standing()) {
                int a = p(j.a).layer, b = p(j.b).layer;
                if (one.contains(a) || one.contains(b)) {
                    one.add(a);
                    one.add(b);
                }
            }
        }
        return one.first();
    }

    int hands(int a, int b) {
        if (!isPiece(a) || !isPiece(b) || cobbleOf(a).contains(b)) return -1;
        long f = faults(cobbleOf(a)), g = faults(cobbleOf(b));
        long n = wholes(cobbleOf(a)).size(), m = wholes(cobbleOf(b)).size();
        long way = (f * m - g * n) * (f * m - g * n);
        return n >= 2 && m >= 2 && way > 4 * (f + g) * n * m ? 1 : 0;
    }

    int blind(boolean right) {
        if (trials == 1000) return -1;
        if (!right) wrongs++;
        return ++trials;
    }

    int count(int what) {
        int sum = 0;
        switch (what) {
            case 0: return pieces.size();
            case 1: return standing().size();
            case 2:
                for (int p = 0; p < pieces.size(); p++) if (cobbleOf(p).first() == p && cobbleOf(p).size() > 1) sum++;
                return sum;
            case 3:
                for (J j : joins) if (open(j)) sum++;
                return sum;
            case 4: return trials == 0 ? -1 : wrongs * 1000 / trials;
            case 5: return lines.size();
            case 6: return tape.length();
            case 7: return now;
            case 8: return cuts.size();
            case 9: return namesTold().size();
            default: return -1;
        }
    }
}
