import java.util.NoSuchElementException;

/** A heap of struck flints: see ../shared/DOC.md for every promise of this class. */
public final class FlintHeap {
    public static final int NONE = -1;

    private static final int SCAR = 0;
    private static final int BELLY = 1;
    private static final int BREAK = 3;
    /** Places round a RIM, TURNS, and FACES of a PIECE: all are eight. */
    private static final int EIGHT = 8;
    private static final int MOST_PIECES = 40;
    private static final int MOST_FACES = MOST_PIECES * EIGHT;
    private static final int LAST_DAY = 999;
    private static final int LAST_PLACE = 999;
    private static final int LAYERS = 5;
    private static final int MOST_TRIALS = 1000;
    private static final int FIRST_HOLE = 100;
    /** Above every sum that can come up: of GAPS, of weights, of COSTS. */
    private static final int ABOVE_ALL = 1000000;

    // Tokens of the text: a sign is its own character, so these keep clear of 40 to 61.
    private static final int END = 0;
    private static final int NO_TOKEN = 1;
    private static final int NUMBER = 2;
    private static final int NAME = 3;
    private static final int PART_WORD = 4;
    private static final int LET = 128;
    private static final int BAR = 129;
    private static final int DOUBT = 130;
    private static final int STONE = 131;
    private static final int WHEN = 132;
    private static final int AND = 133;
    private static final int OR = 134;
    private static final int NOT = 135;

    private final Pieces pieces;
    private final Faces faces;
    private final Joins joins;
    private final Groups groups;
    private final Judge judge;
    private final Reader reader;
    private final Blows blows;
    private final Ground ground;
    private int now;
    private int trials;
    private int wrongTrials;

    public FlintHeap() {
        pieces = new Pieces();
        faces = new Faces();
        joins = new Joins();
        groups = new Groups(pieces, joins);
        judge = new Judge(pieces, faces);
        reader = new Reader();
        blows = new Blows(pieces, faces, joins, groups);
        ground = new Ground(pieces, groups);
    }

    public int days(int n) {
        if (!within(n, 0, 100) || now + n > LAST_DAY) {
            return NONE;
        }
        now += n;
        return now;
    }

    public int piece(int stone, int size, int x, int y, int layer) {
        boolean placed = within(x, 0, LAST_PLACE) && within(y, 0, LAST_PLACE) && within(layer, 0, LAYERS - 1);
        if (!placed || !within(stone, NONE, 7) || !within(size, 1, 200) || pieces.total >= MOST_PIECES) {
            return NONE;
        }
        int number = pieces.total;
        pieces.stone[number] = stone;
        pieces.size[number] = size;
        pieces.x[number] = x;
        pieces.y[number] = y;
        pieces.layer[number] = layer;
        pieces.total++;
        regroup();
        return number;
    }

    public boolean marks(int piece, int colour, int grain, int spots, boolean burnt, int faults) {
        boolean told = within(colour, 0, 99) && within(grain, 0, 99) && within(spots, 0, 9) && within(faults, 0, 9);
        if (!told || !pieces.has(piece)) {
            return false;
        }
        pieces.colour[piece] = colour;
        pieces.grain[piece] = grain;
        pieces.spots[piece] = spots;
        pieces.burnt[piece] = burnt ? 1 : 0;
        pieces.faults[piece] = faults;
        return true;
    }

    public int face(int piece, int sort, long rim, int ripple) {
        if (!pieces.has(piece) || !within(sort, SCAR, BREAK) || !within(ripple, 0, EIGHT - 1)) {
            return NONE;
        }
        if (!faces.rimFits(rim) || sort == BELLY && faces.hasBelly(piece)) {
            return NONE;
        }
        int number = faces.add(piece, sort, rim, ripple);
        blows.forget();
        return number;
    }

    public int feed(long a, long b, long c) {
        reader.take8(a);
        reader.take8(b);
        reader.take8(c);
        return reader.length;
    }

    public int text() {
        int fault = reader.read(judge.draft);
        if (fault == 0) {
            judge.takeDraft();
        }
        return fault;
    }

    public boolean near(int t) {
        if (!within(t, 0, 400)) {
            return false;
        }
        judge.nearness = t;
        return true;
    }

    public int meet(int a, int b, int what) throws NoSuchElementException {
        if (!faces.has(a) || !faces.has(b) || a / EIGHT == b / EIGHT) {
            throw new NoSuchElementException("no two such faces");
        }
        switch (what) {
            case 0:
                return faces.fit(a, b) / EIGHT;
            case 1:
                return faces.fit(a, b) % EIGHT;
            case 2:
                return judge.mayMeet(a, b) ? 1 : 0;
            case 3:
                return judge.mayMeet(a, b) ? judge.doubtOf(a, b) : 0;
            default:
                throw new NoSuchElementException("no such thing of a meeting");
        }
    }

    public int candidate(int face, int i) {
        if (!faces.has(face) || i < 0) {
            return NONE;
        }
        int found = 0;
        for (int other = 0; other < MOST_FACES; other++) {
            if (!faces.has(other) || !judge.mayMeet(face, other)) {
                continue;
            }
            if (found == i) {
                return other;
            }
            found++;
        }
        return NONE;
    }

    public int join(int a, int b) {
        if (!faces.has(a) || !faces.has(b) || joins.total >= Joins.MOST) {
            return NONE;
        }
        if (faces.joinOf[a] != NONE || faces.joinOf[b] != NONE || !judge.mayMeet(a, b)) {
            return NONE;
        }
        int number = joins.add(a, b, faces.fit(a, b) % EIGHT, now);
        joins.ofBreaks[number] = faces.sort[a] == BREAK;
        faces.joinOf[a] = number;
        faces.joinOf[b] = number;
        regroup();
        return number;
    }

    public boolean part(int join) {
        if (!joins.stands(join)) {
            return false;
        }
        joins.parted[join] = now;
        faces.joinOf[joins.first[join]] = NONE;
        faces.joinOf[joins.second[join]] = NONE;
        regroup();
        return true;
    }

    public int joined(int join, int what) throws NoSuchElementException {
        if (!joins.has(join)) {
            throw new NoSuchElementException("no such join");
        }
        switch (what) {
            case 0:
                return joins.first[join];
            case 1:
                return joins.second[join];
            case 2:
                return joins.turn[join];
            case 3:
                return joins.day[join];
            case 4:
                return joins.parted[join];
            case 5:
                return groups.isOpen(join) ? 1 : 0;
            case 6:
                return joins.stands(join) ? rivals(joins.first[join], joins.second[join]) : 0;
            case 7:
                return judge.doubtOf(joins.first[join], joins.second[join]);
            default:
                throw new NoSuchElementException("no such thing of a join");
        }
    }

    public int look(int piece, int what) throws NoSuchElementException {
        if (!pieces.has(piece)) {
            throw new NoSuchElementException("no such piece");
        }
        switch (what) {
            case 0:
                return judge.stoneOf(piece);
            case 1:
                return groups.cobbleOf[piece];
            case 2:
                return groups.wholeOf[piece];
            case 3:
                return groups.turnOf[piece];
            case 4:
                return faces.total[piece];
            case 5:
                return ground.isLeftAlone(piece) ? 1 : 0;
            case 6:
                ground.walk(piece);
                return ground.wentX;
            case 7:
                ground.walk(piece);
                return ground.wentY;
            case 8:
                return pieces.loose(piece);
            default:
                throw new NoSuchElementException("no such thing of a piece");
        }
    }

    public int of(int face, int what) throws NoSuchElementException {
        if (!faces.has(face)) {
            throw new NoSuchElementException("no such face");
        }
        switch (what) {
            case 0:
                return faces.sort[face];
            case 1:
                return joins.partner(faces.joinOf[face], face);
            case 2:
                return blows.blowOf(face);
            case 3:
                return blows.isHole(face) ? Math.max(0, faces.rimSum(face) - judge.nearness) : NONE;
            case 4:
                return blows.isHole(face) ? faces.rimSum(face) + judge.nearness : NONE;
            default:
                throw new NoSuchElementException("no such thing of a face");
        }
    }

    public int asOf(int piece, int day) {
        if (!pieces.has(piece) || !within(day, 0, now)) {
            return NONE;
        }
        return groups.cobbleAsOf(piece, day);
    }

    public boolean cuts(int a, int b, int weight) {
        if (!faces.has(a) || !faces.has(b) || !within(weight, 0, 9)) {
            return false;
        }
        if (a == b || a / EIGHT != b / EIGHT || faces.sort[a] != SCAR || faces.sort[b] != SCAR) {
            return false;
        }
        faces.tellCut(a, b, weight);
        blows.forget();
        return true;
    }

    public int cobble(int piece, int what) throws NoSuchElementException {
        if (!pieces.has(piece)) {
            throw new NoSuchElementException("no such piece");
        }
        int name = groups.cobbleOf[piece];
        switch (what) {
            case 0:
                return groups.piecesIn[name];
            case 1:
                return groups.wholesIn(name);
            case 2:
                return blows.holesIn(name);
            case 3:
                return groups.openIn(name);
            case 4:
                return blows.leastQuarrel(name);
            case 5:
                return blows.isRing(name) ? 1 : 0;
            case 6:
                return blows.changeOf(name);
            case 7:
                return groups.faultsIn(name);
            default:
                throw new NoSuchElementException("no such thing of a cobble");
        }
    }

    public int blow(int piece, int i) {
        if (!pieces.has(piece)) {
            return NONE;
        }
        return blows.inOrder(groups.cobbleOf[piece], i);
    }

    public int seat(int piece, int n, int what) throws NoSuchElementException {
        if (!pieces.has(piece) || !within(n, 1, 2) || !within(what, 0, 2)) {
            throw new NoSuchElementException("no such seat");
        }
        ground.findSeats(groups.cobbleOf[piece], n);
        if (what == 0) {
            return ground.cost;
        }
        return what == 1 ? ground.firstSeat : ground.secondSeat;
    }

    public int foot(int x, int y, int strength) {
        if (!within(x, 0, LAST_PLACE) || !within(y, 0, LAST_PLACE) || !within(strength, 1, 99)) {
            return NONE;
        }
        return ground.addFoot(x, y, strength);
    }

    public int hour(int layer) {
        return within(layer, 0, LAYERS - 1) ? groups.hourOf(layer) : NONE;
    }

    public int hands(int a, int b) {
        if (!pieces.has(a) || !pieces.has(b) || groups.cobbleOf[a] == groups.cobbleOf[b]) {
            return NONE;
        }
        return groups.areTwoHands(groups.cobbleOf[a], groups.cobbleOf[b]) ? 1 : 0;
    }

    public int blind(boolean right) {
        if (trials >= MOST_TRIALS) {
            return NONE;
        }
        trials++;
        if (!right) {
            wrongTrials++;
        }
        return trials;
    }

    public int count(int what) {
        switch (what) {
            case 0:
                return pieces.total;
            case 1:
                return joins.standing();
            case 2:
                return groups.greatCobbles();
            case 3:
                return groups.openJoins();
            case 4:
                return trials > 0 ? wrongTrials * 1000 / trials : NONE;
            case 5:
                return judge.told.lines;
            case 6:
                return reader.length;
            case 7:
                return now;
            case 8:
                return faces.cutsTold();
            case 9:
                return judge.told.names;
            default:
                return NONE;
        }
    }

    private void regroup() {
        groups.regroup();
        blows.forget();
        ground.forget();
    }

    private int rivals(int a, int b) {
        int sum = 0;
        for (int other = 0; other < MOST_FACES; other++) {
            if (other == a || other == b || !faces.has(other)) {
                continue;
            }
            if (judge.mayMeet(other, a) || judge.mayMeet(other, b)) {
                sum++;
            }
        }
        return sum;
    }

    private static boolean within(int n, int low, int high) {
        return n >= low && n <= high;
    }

    private static int apart(int a, int b) {
        return a < b ? b - a : a - b;
    }

    /** The k-th of eight bytes, the highest being the first. */
    private static int byteOf(long bytes, int k) {
        return (int) (bytes >>> (56 - 8 * k)) & 255;
    }

    /** Modulo 8, for numbers below 0 too. */
    private static int modEight(int n) {
        return n & (EIGHT - 1);
    }

    /** The PIECES, a row for each of their numbers. */
    private static final class Pieces {
        int total;
        final int[] stone = new int[MOST_PIECES];
        final int[] size = new int[MOST_PIECES];
        final int[] x = new int[MOST_PIECES];
        final int[] y = new int[MOST_PIECES];
        final int[] layer = new int[MOST_PIECES];
        final int[] colour = new int[MOST_PIECES];
        final int[] grain = new int[MOST_PIECES];
        final int[] spots = new int[MOST_PIECES];
        /** 1 or 0, as the text's words want it. */
        final int[] burnt = new int[MOST_PIECES];
        final int[] faults = new int[MOST_PIECES];

        boolean has(int piece) {
            return piece >= 0 && piece < total;
        }

        int loose(int piece) {
            return size[piece] > 0 ? 10 + 400 / size[piece] : 10;
        }

        /** How far a FOOT of a strength moves a PIECE. */
        int stride(int piece, int strength) {
            return size[piece] > 0 ? strength * 20 / size[piece] : 0;
        }
    }

    /** The FACES by 8 * PIECE + FACE, with what is told of their CUTS. */
    private static final class Faces {
        private static final int WEIGHT_BITS = 4;

        final int[] total = new int[MOST_PIECES];
        final int[] sort = new int[MOST_FACES];
        private final long[] rim = new long[MOST_FACES];
        private final int[] ripple = new int[MOST_FACES];
        /** The JOIN in which a FACE is now, or NONE. */
        final int[] joinOf = new int[MOST_FACES];
        /** For each SCAR 8 weights, one for each FACE of its PIECE that it cuts: 0 if that is not told. */
        private final int[] cut = new int[MOST_FACES];
        private final int[] rimOfFirst = new int[EIGHT];
        private final int[] rimOfSecond = new int[EIGHT];

        boolean has(int face) {
            return face >= 0 && face < MOST_FACES && face % EIGHT < total[face / EIGHT];
        }

        boolean hasBelly(int piece) {
            for (int face = piece * EIGHT; face < piece * EIGHT + total[piece]; face++) {
                if (sort[face] == BELLY) {
                    return true;
                }
            }
            return false;
        }

        boolean rimFits(long measures) {
            for (int k = 0; k < EIGHT; k++) {
                if (byteOf(measures, k) > 99) {
                    return false;
                }
            }
            return true;
        }

        int add(int piece, int itsSort, long itsRim, int itsRipple) {
            int number = total[piece];
            if (number >= EIGHT) {
                return NONE;
            }
            int face = piece * EIGHT + number;
            sort[face] = itsSort;
            rim[face] = itsRim;
            ripple[face] = itsRipple;
            joinOf[face] = NONE;
            total[piece]++;
            return number;
        }

        int rimSum(int face) {
            int sum = 0;
            for (int k = 0; k < EIGHT; k++) {
                sum += byteOf(rim[face], k);
            }
            return sum;
        }

        /** 8 * GAP + TURN: the least of these numbers has the least TURN of those with the least sum. */
        int fit(int f, int g) {
            for (int k = 0; k < EIGHT; k++) {
                rimOfFirst[k] = byteOf(rim[f], k);
                rimOfSecond[k] = byteOf(rim[g], k);
            }
            int least = ABOVE_ALL;
            for (int turn = 0; turn < EIGHT; turn++) {
                int way = modEight(turn - ripple[f] - ripple[g]);
                int sum = 5 * Math.min(way, EIGHT - way);
                for (int k = 0; k < EIGHT; k++) {
                    sum += apart(rimOfFirst[modEight(turn - k)], rimOfSecond[k]);
                }
                least = Math.min(least, sum * EIGHT + turn);
            }
            return least;
        }

        /** The weight with which a SCAR cuts the k-th FACE of its PIECE. */
        int cutWeight(int face, int k) {
            return cut[face] >>> (WEIGHT_BITS * k) & 15;
        }

        void tellCut(int a, int b, int weight) {
            setCut(a, b % EIGHT, weight);
            setCut(b, a % EIGHT, 0);
        }

        private void setCut(int face, int k, int weight) {
            int shift = WEIGHT_BITS * k;
            cut[face] = cut[face] & ~(15 << shift) | weight << shift;
        }

        int cutsTold() {
            int sum = 0;
            for (int face = 0; face < MOST_FACES; face++) {
                for (int k = 0; cut[face] != 0 && k < EIGHT; k++) {
                    sum += cutWeight(face, k) > 0 ? 1 : 0;
                }
            }
            return sum;
        }
    }

    /** The book of JOINS, those that were PARTED too. */
    private static final class Joins {
        static final int MOST = 80;

        int total;
        final int[] first = new int[MOST];
        final int[] second = new int[MOST];
        final int[] turn = new int[MOST];
        final int[] day = new int[MOST];
        final int[] parted = new int[MOST];
        final boolean[] ofBreaks = new boolean[MOST];

        boolean has(int join) {
            return join >= 0 && join < total;
        }

        boolean stands(int join) {
            return has(join) && parted[join] == NONE;
        }

        boolean stoodOn(int join, int when) {
            return day[join] <= when && (parted[join] == NONE || parted[join] > when);
        }

        int add(int a, int b, int itsTurn, int when) {
            int number = total;
            first[number] = a;
            second[number] = b;
            turn[number] = itsTurn;
            day[number] = when;
            parted[number] = NONE;
            total++;
            return number;
        }

        /** The other FACE of the JOIN in which a FACE is; NONE if it is in none. */
        int partner(int join, int face) {
            if (join < 0 || join >= total) {
                return NONE;
            }
            return first[join] == face ? second[join] : first[join];
        }

        /** The other PIECE of a JOIN of this PIECE; NONE if it has no part in it. */
        int neighbour(int join, int piece) {
            if (first[join] / EIGHT == piece) {
                return second[join] / EIGHT;
            }
            return second[join] / EIGHT == piece ? first[join] / EIGHT : NONE;
        }

        int standing() {
            int sum = 0;
            for (int join = 0; join < total; join++) {
                if (parted[join] == NONE) {
                    sum++;
                }
            }
            return sum;
        }
    }

    /** What hangs together: COBBLES with their TURNS, WHOLES, and layers of one hour. */
    private static final class Groups {
        private final Pieces pieces;
        private final Joins joins;
        final int[] cobbleOf = new int[MOST_PIECES];
        final int[] wholeOf = new int[MOST_PIECES];
        final int[] turnOf = new int[MOST_PIECES];
        /** How many PIECES a COBBLE of this name has. */
        final int[] piecesIn = new int[MOST_PIECES];
        private final int[] cobbleThen = new int[MOST_PIECES];
        private final int[] queue = new int[MOST_PIECES];
        private final int[] hours = new int[LAYERS];

        Groups(Pieces pieces, Joins joins) {
            this.pieces = pieces;
            this.joins = joins;
        }

        void regroup() {
            hang(cobbleOf, LAST_DAY, false);
            hang(wholeOf, LAST_DAY, true);
            for (int piece = 0; piece < pieces.total; piece++) {
                turnOf[piece] = NONE;
                piecesIn[piece] = 0;
            }
            for (int piece = 0; piece < pieces.total; piece++) {
                piecesIn[cobbleOf[piece]]++;
                if (cobbleOf[piece] == piece) {
                    set(piece);
                }
            }
        }

        /** Gives each PIECE the least PIECE it hangs together with, by the JOINS that stood on a DAY. */
        private void hang(int[] names, int day, boolean breaksAlone) {
            for (int piece = 0; piece < pieces.total; piece++) {
                names[piece] = piece;
            }
            for (int join = 0; join < joins.total; join++) {
                if (joins.stoodOn(join, day) && (joins.ofBreaks[join] || !breaksAlone)) {
                    merge(names, pieces.total, joins.first[join] / EIGHT, joins.second[join] / EIGHT);
                }
            }
        }

        private static void merge(int[] names, int total, int a, int b) {
            int least = Math.min(names[a], names[b]);
            int other = Math.max(names[a], names[b]);
            for (int i = 0; i < total; i++) {
                if (names[i] == other) {
                    names[i] = least;
                }
            }
        }

        /** TURNS of a COBBLE's PIECES, breadth first from the least one. */
        private void set(int least) {
            turnOf[least] = 0;
            queue[0] = least;
            int found = 1;
            for (int at = 0; at < found && at < MOST_PIECES; at++) {
                found = setNeighbours(queue[at], found);
            }
        }

        private int setNeighbours(int piece, int foundAhead) {
            int found = foundAhead;
            for (int join = 0; join < joins.total; join++) {
                int other = joins.stands(join) ? joins.neighbour(join, piece) : NONE;
                if (other != NONE && turnOf[other] == NONE && found < MOST_PIECES) {
                    turnOf[other] = modEight(joins.turn[join] - turnOf[piece]);
                    queue[found] = other;
                    found++;
                }
            }
            return found;
        }

        boolean isOpen(int join) {
            if (!joins.stands(join)) {
                return false;
            }
            int turns = turnOf[joins.first[join] / EIGHT] + turnOf[joins.second[join] / EIGHT];
            return modEight(turns - joins.turn[join]) != 0;
        }

        int openJoins() {
            int sum = 0;
            for (int join = 0; join < joins.total; join++) {
                if (isOpen(join)) {
                    sum++;
                }
            }
            return sum;
        }

        int openIn(int cobble) {
            int sum = 0;
            for (int join = 0; join < joins.total; join++) {
                if (isOpen(join) && cobbleOf[joins.first[join] / EIGHT] == cobble) {
                    sum++;
                }
            }
            return sum;
        }

        int cobbleAsOf(int piece, int day) {
            hang(cobbleThen, day, false);
            return cobbleThen[piece];
        }

        int wholesIn(int cobble) {
            int sum = 0;
            for (int piece = 0; piece < pieces.total; piece++) {
                if (cobbleOf[piece] == cobble && wholeOf[piece] == piece) {
                    sum++;
                }
            }
            return sum;
        }

        int faultsIn(int cobble) {
            int sum = 0;
            for (int piece = 0; piece < pieces.total; piece++) {
                if (cobbleOf[piece] == cobble) {
                    sum += pieces.faults[piece];
                }
            }
            return sum;
        }

        int faultsOfWhole(int whole) {
            int sum = 0;
            for (int piece = 0; piece < pieces.total; piece++) {
                if (wholeOf[piece] == whole) {
                    sum += pieces.faults[piece];
                }
            }
            return sum;
        }

        /** How many COBBLES have two PIECES and more. */
        int greatCobbles() {
            int sum = 0;
            for (int piece = 0; piece < pieces.total; piece++) {
                if (cobbleOf[piece] == piece && piecesIn[piece] > 1) {
                    sum++;
                }
            }
            return sum;
        }

        int hourOf(int layer) {
            for (int i = 0; i < LAYERS; i++) {
                hours[i] = i;
            }
            for (int join = 0; join < joins.total; join++) {
                if (joins.stands(join)) {
                    int a = pieces.layer[joins.first[join] / EIGHT];
                    int b = pieces.layer[joins.second[join] / EIGHT];
                    merge(hours, LAYERS, a, b);
                }
            }
            return hours[layer];
        }

        boolean areTwoHands(int a, int b) {
            int n = wholesIn(a);
            int m = wholesIn(b);
            int f = faultsIn(a);
            int g = faultsIn(b);
            return n >= 2 && m >= 2 && way(f, n, g, m) > 4L * (f + g) * n * m;
        }

        static long way(int f, int n, int g, int m) {
            long apart = (long) f * m - (long) g * n;
            return apart * apart;
        }
    }

    /** Whether FACES may meet, DOUBT and stones, as the text has it. */
    private static final class Judge {
        static final int GAP = 0;
        static final int SMALL = 1;
        static final int GREAT = 2;
        static final int FAR = 3;
        static final int LAYERS_APART = 4;
        static final int BURNT = 5;
        static final int BREAKS = 6;
        static final int COLOUR = 7;
        static final int GRAIN = 8;
        static final int SPOTS = 9;
        static final int FIRE = 10;
        static final int SIZE = 11;
        static final int PART_WORDS = 12;

        private final Pieces pieces;
        private final Faces faces;
        int nearness = 20;
        Rules told = new Rules();
        /** Written while a text is read, so that a FAULT leaves the told one as it is. */
        Rules draft = new Rules();
        /** What the PART's words are worth just now. */
        private final int[] worths = new int[PART_WORDS];

        Judge(Pieces pieces, Faces faces) {
            this.pieces = pieces;
            this.faces = faces;
        }

        void takeDraft() {
            Rules old = told;
            told = draft;
            draft = old;
        }

        boolean mayMeet(int a, int b) {
            int p = a / EIGHT;
            int q = b / EIGHT;
            if (p == q || !sortsMeet(faces.sort[a], faces.sort[b])) {
                return false;
            }
            int gap = faces.fit(a, b) / EIGHT;
            int limit = nearness + 10 * (pieces.burnt[p] + pieces.burnt[q]);
            if (gap > limit || !stonesMeet(stoneOf(p), stoneOf(q))) {
                return false;
            }
            tellMeeting(a, b, gap);
            return told.firstThatHolds(BAR, worths) == NONE;
        }

        private static boolean sortsMeet(int a, int b) {
            return a == SCAR && b == BELLY || a == BELLY && b == SCAR || a == BREAK && b == BREAK;
        }

        private static boolean stonesMeet(int a, int b) {
            return a == b || a == NONE || b == NONE;
        }

        int stoneOf(int piece) {
            if (pieces.stone[piece] != NONE) {
                return pieces.stone[piece];
            }
            tellPiece(piece);
            return told.firstThatHolds(STONE, worths);
        }

        int doubtOf(int a, int b) {
            tellMeeting(a, b, faces.fit(a, b) / EIGHT);
            return told.sumOfDoubt(worths);
        }

        private void tellPiece(int p) {
            for (int word = 0; word < PART_WORDS; word++) {
                worths[word] = 0;
            }
            worths[COLOUR] = pieces.colour[p];
            worths[GRAIN] = pieces.grain[p];
            worths[SPOTS] = pieces.spots[p];
            worths[FIRE] = pieces.burnt[p];
            worths[SIZE] = pieces.size[p];
        }

        private void tellMeeting(int a, int b, int gap) {
            int p = a / EIGHT;
            int q = b / EIGHT;
            worths[GAP] = gap;
            worths[FAR] = Math.max(apart(pieces.x[p], pieces.x[q]), apart(pieces.y[p], pieces.y[q]));
            worths[LAYERS_APART] = apart(pieces.layer[p], pieces.layer[q]);
            worths[BURNT] = pieces.burnt[p] + pieces.burnt[q];
            worths[BREAKS] = faces.sort[a] == BREAK ? 1 : 0;
            worths[COLOUR] = apart(pieces.colour[p], pieces.colour[q]);
            worths[GRAIN] = apart(pieces.grain[p], pieces.grain[q]);
            worths[SPOTS] = apart(pieces.spots[p], pieces.spots[q]);
            worths[FIRE] = worths[BURNT];
            worths[SIZE] = apart(pieces.size[p], pieces.size[q]);
            tellSizes(faces.sort[a], pieces.size[p], pieces.size[q]);
        }

        private void tellSizes(int sort, int ofFirst, int ofSecond) {
            boolean firstIsSmall = sort == BREAK ? ofFirst < ofSecond : sort == BELLY;
            worths[SMALL] = firstIsSmall ? ofFirst : ofSecond;
            worths[GREAT] = firstIsSmall ? ofSecond : ofFirst;
        }
    }

    /** A TEXT as it was read: its lines, each E as a row of steps on a stack. */
    private static final class Rules {
        static final int MOST_LINES = 24;
        static final int MOST_NAMES = 8;
        /** Each step comes of a token of its own, so the TAPE's length is enough. */
        private static final int MOST_STEPS = Reader.MOST_SIGNS;
        /** Within 5 PARTS no more than 4 worths wait at each, and one is made. */
        private static final int MOST_WAITING = 32;

        int lines;
        int names;
        private int steps;
        private final int[] kind = new int[MOST_LINES];
        private final int[] number = new int[MOST_LINES];
        private final int[] start = new int[MOST_LINES + 1];
        private final int[] step = new int[MOST_STEPS];
        private final int[] nameWorth = new int[MOST_NAMES];
        private final int[] stack = new int[MOST_WAITING];

        void clear() {
            lines = 0;
            names = 0;
            steps = 0;
        }

        void write(int token, int worth) {
            if (steps < MOST_STEPS) {
                step[steps] = token + 256 * worth;
                steps++;
            }
        }

        /** All steps written since the last line make up this one. */
        void endLine(int itsKind, int itsNumber) {
            if (lines >= MOST_LINES) {
                return;
            }
            kind[lines] = itsKind;
            number[lines] = itsNumber;
            lines++;
            start[lines] = steps;
            if (itsKind == LET) {
                number[lines - 1] = names;
                names++;
            }
        }

        /** The number of the first line of a kind that holds, NONE if none does. */
        int firstThatHolds(int wanted, int[] worths) {
            for (int line = 0; line < lines; line++) {
                if (isNeeded(line, wanted) && reckon(line, worths) != 0 && kind[line] == wanted) {
                    return number[line];
                }
            }
            return NONE;
        }

        int sumOfDoubt(int[] worths) {
            int sum = 0;
            for (int line = 0; line < lines; line++) {
                if (isNeeded(line, DOUBT) && reckon(line, worths) != 0 && kind[line] == DOUBT) {
                    sum += number[line];
                }
            }
            return sum;
        }

        /** NAMES are used only behind the line that tells them: so each is reckoned as its line comes. */
        private boolean isNeeded(int line, int wanted) {
            return kind[line] == wanted || kind[line] == LET;
        }

        /** What a line's E is worth; that of a let line stays as its NAME's. */
        private int reckon(int line, int[] worths) {
            int top = 0;
            for (int at = start[line]; at < start[line + 1]; at++) {
                int token = step[at] & 255;
                int worth = step[at] >> 8;
                if (token == NOT) {
                    turnRound(top);
                } else if (token == NUMBER || token == NAME || token == PART_WORD) {
                    top = put(top, plainWorth(token, worth, worths));
                } else {
                    top = putTogether(top, token);
                }
            }
            int whole = top > 0 ? stack[0] : 0;
            if (kind[line] == LET && within(number[line], 0, MOST_NAMES - 1)) {
                nameWorth[number[line]] = whole;
            }
            return whole;
        }

        private int plainWorth(int token, int worth, int[] worths) {
            if (token == NAME) {
                return worth >= 0 && worth < MOST_NAMES ? nameWorth[worth] : 0;
            }
            if (token == PART_WORD) {
                return worth >= 0 && worth < worths.length ? worths[worth] : 0;
            }
            return worth;
        }

        private int put(int top, int worth) {
            if (top >= MOST_WAITING) {
                return top;
            }
            stack[top] = worth;
            return top + 1;
        }

        private void turnRound(int top) {
            if (top > 0) {
                stack[top - 1] = stack[top - 1] == 0 ? 1 : 0;
            }
        }

        private int putTogether(int top, int token) {
            if (top < 2) {
                return top;
            }
            stack[top - 2] = together(token, stack[top - 2], stack[top - 1]);
            return top - 1;
        }

        private static int together(int token, int a, int b) {
            switch (token) {
                case '+':
                    return a + b;
                case '-':
                    return a - b;
                case '*':
                    return a * b;
                case '<':
                    return a < b ? 1 : 0;
                case '=':
                    return a == b ? 1 : 0;
                case AND:
                    return a != 0 && b != 0 ? 1 : 0;
                default:
                    return a != 0 || b != 0 ? 1 : 0;
            }
        }
    }

    /** The TAPE, and the reading of it as a TEXT. */
    private static final class Reader {
        static final int MOST_SIGNS = 1000;
        private static final int CAN_NOT_STAND = 1;
        private static final int NOT_TOLD = 2;
        private static final int TOLD_AGAIN = 3;
        private static final int WRONG_NUMBER = 4;
        private static final int TOO_MANY = 5;
        private static final int DEEPEST = 5;
        /** The tokens from LET on in their order. */
        private static final String KEY_WORDS = "let bar doubt stone when and or not ";
        /** In the order of what they are worth. */
        private static final String PART_WORDS =
                "gap small great far layers burnt breaks colour grain spots fire size ";
        private static final int KEYS = NOT - LET + 1;
        private static final String SIGNS = "()<=+-*;";

        int length;
        private final char[] signs = new char[MOST_SIGNS];
        private Rules rules;
        private int fault;
        private int token;
        private int tokenAt;
        private int tokenEnd;
        private int tokenWorth;
        /** The letters of the last WORD, 5 bits each: they tell it from all others. */
        private long letters;
        private final long[] keyWords = new long[KEYS];
        private final long[] partWords = new long[Judge.PART_WORDS];
        private final long[] names = new long[Rules.MOST_NAMES];

        Reader() {
            spell(KEY_WORDS, keyWords);
            spell(PART_WORDS, partWords);
        }

        private static void spell(String words, long[] row) {
            int word = 0;
            for (int i = 0; i < words.length() && word < row.length; i++) {
                if (words.charAt(i) == ' ') {
                    word++;
                } else {
                    row[word] = withLetter(row[word], words.charAt(i));
                }
            }
        }

        private static long withLetter(long ahead, char letter) {
            return ahead << 5 | letter - 'a' + 1;
        }

        void take8(long bytes) {
            for (int k = 0; k < 8; k++) {
                int sign = byteOf(bytes, k);
                if ((sign == 10 || within(sign, 32, 126)) && length < MOST_SIGNS) {
                    signs[length] = (char) sign;
                    length++;
                }
            }
        }

        /** The FAULT, or 0 with the whole TEXT in the draft. The TAPE is empty then. */
        int read(Rules draft) {
            rules = draft;
            rules.clear();
            fault = 0;
            tokenEnd = 0;
            advance();
            for (int line = 0; line <= Rules.MOST_LINES && fault == 0 && token != END; line++) {
                readLine();
            }
            length = 0;
            return fault;
        }

        private boolean refuse(int kind) {
            fault = kind + 16 * tokenAt;
            return false;
        }

        private void readLine() {
            int kind = token;
            if (!within(kind, LET, STONE)) {
                refuse(CAN_NOT_STAND);
                return;
            }
            if (rules.lines >= Rules.MOST_LINES) {
                refuse(TOO_MANY);
                return;
            }
            advance();
            int number = token == NUMBER ? tokenWorth : 0;
            if (readHead(kind) && readChain(0, 0) && accept(';')) {
                rules.endLine(kind, number);
            }
        }

        private boolean readHead(int kind) {
            if (kind == LET) {
                return readNewName() && accept('=');
            }
            if (kind == DOUBT) {
                return readNumber(1, 99) && accept(WHEN);
            }
            if (kind == STONE) {
                return readNumber(0, 7) && accept(WHEN);
            }
            return accept(WHEN);
        }

        private boolean readNewName() {
            if (token != NAME) {
                return refuse(CAN_NOT_STAND);
            }
            if (tokenWorth != NONE) {
                return refuse(TOLD_AGAIN);
            }
            if (rules.names >= Rules.MOST_NAMES) {
                return refuse(TOO_MANY);
            }
            // It is not found by this before its line has ended, when the rules have one NAME more.
            names[rules.names] = letters;
            advance();
            return true;
        }

        private boolean readNumber(int low, int high) {
            if (token != NUMBER) {
                return refuse(CAN_NOT_STAND);
            }
            if (!within(tokenWorth, low, high)) {
                return refuse(WRONG_NUMBER);
            }
            advance();
            return true;
        }

        private boolean accept(int wanted) {
            if (token != wanted) {
                return refuse(CAN_NOT_STAND);
            }
            advance();
            return true;
        }

        /** E, TEST, SUM and TERM as levels 0 to 3; the level beyond is PART. */
        private boolean readChain(int level, int depth) {
            if (level > 3) {
                return readPart(depth);
            }
            if (!readChain(level + 1, depth)) {
                return false;
            }
            // A TEST has one sign at most: a second one is left for what comes behind, where it can't stand.
            int most = level == 1 ? 1 : MOST_SIGNS;
            for (int n = 0; n < most && levelOf(token) == level; n++) {
                int sign = token;
                advance();
                if (!readChain(level + 1, depth)) {
                    return false;
                }
                rules.write(sign, 0);
            }
            return true;
        }

        private static int levelOf(int token) {
            switch (token) {
                case AND:
                case OR:
                    return 0;
                case '<':
                case '=':
                    return 1;
                case '+':
                case '-':
                    return 2;
                case '*':
                    return 3;
                default:
                    return NONE;
            }
        }

        private boolean readPart(int depth) {
            int kind = token;
            int worth = tokenWorth;
            boolean plain = kind == NUMBER || kind == NAME || kind == PART_WORD;
            if (!plain && kind != NOT && kind != '(') {
                return refuse(CAN_NOT_STAND);
            }
            if (kind == NAME && worth == NONE) {
                return refuse(NOT_TOLD);
            }
            if (depth >= DEEPEST) {
                return refuse(TOO_MANY);
            }
            advance();
            if (kind == NOT && !readPart(depth + 1) || kind == '(' && !readChain(0, depth + 1)) {
                return false;
            }
            if (kind != '(') {
                rules.write(kind, worth);
                return true;
            }
            if (token != ')') {
                return refuse(CAN_NOT_STAND);
            }
            advance();
            return true;
        }

        /** The next token is at hand: its kind, its place, and what it is worth. */
        private void advance() {
            int at = tokenEnd;
            while (at < length && (signs[at] == 10 || signs[at] == 32)) {
                at++;
            }
            tokenAt = at;
            tokenEnd = at + 1;
            tokenWorth = 0;
            if (at >= length) {
                token = END;
                tokenEnd = at;
            } else if (within(signs[at], 'a', 'z')) {
                tokenEnd = runEnd(at, 'a', 'z');
                takeWord();
            } else if (within(signs[at], '0', '9')) {
                tokenEnd = runEnd(at, '0', '9');
                takeNumber();
            } else {
                token = SIGNS.indexOf(signs[at]) >= 0 ? signs[at] : NO_TOKEN;
            }
        }

        private int runEnd(int from, char low, char high) {
            int at = from;
            while (at < length && within(signs[at], low, high)) {
                at++;
            }
            return at;
        }

        private void takeNumber() {
            if (tokenEnd - tokenAt > 4) {
                token = NO_TOKEN;
                return;
            }
            token = NUMBER;
            for (int at = tokenAt; at < tokenEnd; at++) {
                tokenWorth = 10 * tokenWorth + signs[at] - '0';
            }
        }

        private void takeWord() {
            if (tokenEnd - tokenAt > 8) {
                token = NO_TOKEN;
                return;
            }
            letters = 0;
            for (int at = tokenAt; at < tokenEnd; at++) {
                letters = withLetter(letters, signs[at]);
            }
            int key = find(keyWords, KEYS);
            int word = find(partWords, Judge.PART_WORDS);
            if (key != NONE) {
                token = LET + key;
            } else if (word != NONE) {
                token = PART_WORD;
                tokenWorth = word;
            } else {
                token = NAME;
                tokenWorth = find(names, rules.names);
            }
        }

        /** Which of so many words the last WORD is, or NONE. */
        private int find(long[] words, int total) {
            for (int word = 0; word < total && word < words.length; word++) {
                if (words[word] == letters) {
                    return word;
                }
            }
            return NONE;
        }
    }

    /** The BLOWS of COBBLES, and the ORDER of one COBBLE's, held until something changes. */
    private static final class Blows {
        private static final int MOST = 12;
        /** No order keeps what is SURE. */
        private static final int NEVER = ABOVE_ALL;

        private final Pieces pieces;
        private final Faces faces;
        private final Joins joins;
        private final Groups groups;
        /** The COBBLE whose ORDER is held; NONE: none. */
        private int held = NONE;
        private int total;
        /** Rising, as WHOLES come ahead of HOLES: so the least place is the least number. */
        private final int[] number = new int[MOST];
        /** For each BLOW the set of those that SURELY come ahead of it. */
        private final int[] ahead = new int[MOST];
        /** At 12 * a + b: the weight of CUTS by which a came behind b. */
        private final int[] cut = new int[MOST * MOST];
        /** For each BLOW the set of those that it came behind by CUTS. */
        private final int[] cutSet = new int[MOST];
        /** For each set of BLOWS that come first: the least quarrel of all that come behind them. */
        private final int[] least = new int[1 << MOST];
        private final int[] order = new int[MOST];

        Blows(Pieces pieces, Faces faces, Joins joins, Groups groups) {
            this.pieces = pieces;
            this.faces = faces;
            this.joins = joins;
            this.groups = groups;
        }

        void forget() {
            held = NONE;
        }

        int leastQuarrel(int cobble) {
            arrange(cobble);
            return hasOrder() ? least[0] : NONE;
        }

        boolean isRing(int cobble) {
            arrange(cobble);
            return total <= MOST && !hasOrder();
        }

        int inOrder(int cobble, int i) {
            arrange(cobble);
            return hasOrder() && i >= 0 && i < total ? number[order[i]] : NONE;
        }

        boolean isHole(int face) {
            return faces.sort[face] == SCAR && faces.joinOf[face] == NONE && isOfGreatCobble(face);
        }

        private boolean isOfGreatCobble(int face) {
            return groups.piecesIn[groups.cobbleOf[face / EIGHT]] > 1;
        }

        /** The number of a SCAR's BLOW; NONE of another FACE, and of a PIECE alone. */
        int blowOf(int face) {
            if (faces.sort[face] != SCAR || !isOfGreatCobble(face)) {
                return NONE;
            }
            int belly = joins.partner(faces.joinOf[face], face);
            return belly == NONE ? FIRST_HOLE + face : groups.wholeOf[belly / EIGHT];
        }

        int holesIn(int cobble) {
            int sum = 0;
            for (int face = 0; face < pieces.total * EIGHT; face++) {
                if (isFaceOf(cobble, face) && isHole(face)) {
                    sum++;
                }
            }
            return sum;
        }

        private boolean isFaceOf(int cobble, int face) {
            return faces.has(face) && groups.cobbleOf[face / EIGHT] == cobble;
        }

        private boolean hasOrder() {
            return total <= MOST && least[0] < NEVER;
        }

        private void arrange(int cobble) {
            if (held == cobble) {
                return;
            }
            held = cobble;
            gather(cobble);
            if (total > MOST) {
                return;
            }
            tellSure(cobble);
            tellCuts(cobble);
            weighAll();
            if (hasOrder()) {
                putInOrder();
            }
        }

        private void gather(int cobble) {
            total = 0;
            for (int piece = 0; piece < pieces.total; piece++) {
                if (groups.cobbleOf[piece] == cobble && groups.wholeOf[piece] == piece) {
                    addBlow(piece);
                }
            }
            for (int face = 0; face < pieces.total * EIGHT; face++) {
                if (isFaceOf(cobble, face) && isHole(face)) {
                    addBlow(FIRST_HOLE + face);
                }
            }
        }

        private void addBlow(int itsNumber) {
            if (total < MOST) {
                number[total] = itsNumber;
            }
            total++;
        }

        private int placeOf(int itsNumber) {
            for (int place = 0; place < total && place < MOST; place++) {
                if (number[place] == itsNumber) {
                    return place;
                }
            }
            return NONE;
        }

        private void tellSure(int cobble) {
            for (int place = 0; place < MOST; place++) {
                ahead[place] = 0;
            }
            int struck = placesStruck(cobble);
            for (int face = 0; face < pieces.total * EIGHT; face++) {
                if (!isFaceOf(cobble, face) || faces.sort[face] != SCAR) {
                    continue;
                }
                int whole = placeOf(groups.wholeOf[face / EIGHT]);
                int scar = placeOf(blowOf(face));
                if (whole != NONE && scar != NONE && scar != whole && (struck >> whole & 1) != 0) {
                    ahead[whole] |= 1 << scar;
                }
            }
        }

        /** The set of the WHOLES that have a BELLY in a JOIN. */
        private int placesStruck(int cobble) {
            int struck = 0;
            for (int face = 0; face < pieces.total * EIGHT; face++) {
                if (isFaceOf(cobble, face) && faces.sort[face] == BELLY && faces.joinOf[face] != NONE) {
                    int whole = placeOf(groups.wholeOf[face / EIGHT]);
                    struck |= whole == NONE ? 0 : 1 << whole;
                }
            }
            return struck;
        }

        private void tellCuts(int cobble) {
            for (int place = 0; place < MOST; place++) {
                cutSet[place] = 0;
            }
            for (int i = 0; i < MOST * MOST; i++) {
                cut[i] = 0;
            }
            for (int face = 0; face < pieces.total * EIGHT; face++) {
                if (!isFaceOf(cobble, face) || faces.sort[face] != SCAR) {
                    continue;
                }
                for (int k = 0; k < EIGHT; k++) {
                    int weight = faces.cutWeight(face, k);
                    if (weight > 0) {
                        addCut(face, face - face % EIGHT + k, weight);
                    }
                }
            }
        }

        private void addCut(int a, int b, int weight) {
            int behind = placeOf(blowOf(a));
            int before = placeOf(blowOf(b));
            if (behind == NONE || before == NONE || behind == before) {
                return;
            }
            cut[behind * MOST + before] += weight;
            cutSet[behind] |= 1 << before;
        }

        private void weighAll() {
            int all = (1 << total) - 1;
            least[all] = 0;
            for (int done = all - 1; done >= 0; done--) {
                int best = NEVER;
                for (int next = 0; next < total; next++) {
                    best = Math.min(best, weigh(done, next));
                }
                least[done] = best;
            }
        }

        /** The least quarrel from here on if one BLOW comes next behind all those that are done. */
        private int weigh(int done, int next) {
            if ((done >> next & 1) != 0 || (ahead[next] & ~done) != 0) {
                return NEVER;
            }
            int sum = least[done | 1 << next];
            int broken = cutSet[next] & ~done;
            if (sum >= NEVER || broken == 0) {
                return sum;
            }
            for (int later = 0; later < total; later++) {
                if ((broken >> later & 1) != 0) {
                    sum += cut[next * MOST + later];
                }
            }
            return sum;
        }

        private void putInOrder() {
            int done = 0;
            for (int i = 0; i < total; i++) {
                int next = 0;
                while (next < total - 1 && weigh(done, next) != least[done]) {
                    next++;
                }
                order[i] = next;
                done |= 1 << next;
            }
        }

        /** How many WHOLES are ahead of the CHANGE; NONE: there is none. */
        int changeOf(int cobble) {
            arrange(cobble);
            int wholes = groups.wholesIn(cobble);
            int faults = groups.faultsIn(cobble);
            int best = NONE;
            long bestWay = 0;
            long bestBulk = 1;
            int n = 0;
            int f = 0;
            for (int i = 0; hasOrder() && i < total; i++) {
                int blow = number[order[i]];
                if (blow >= FIRST_HOLE) {
                    continue;
                }
                n++;
                f += groups.faultsOfWhole(blow);
                int m = wholes - n;
                long way = Groups.way(f, n, faults - f, m);
                long bulk = (long) n * m;
                // f + g is the same at all places, so fractions over n * m alone compare alike.
                if (n >= 2 && m >= 2 && (best == NONE || way * bestBulk > bestWay * bulk)) {
                    best = n;
                    bestWay = way;
                    bestBulk = bulk;
                }
            }
            return bestWay > 4L * faults * bestBulk ? best : NONE;
        }
    }

    /** The ground: SEATS of COBBLES, FEET, and where PIECES went by them. */
    private static final class Ground {
        private static final int SIDE = 10;
        private static final int CELLS = SIDE * SIDE;
        private static final int MOST_FEET = 20;

        private final Pieces pieces;
        private final Groups groups;
        private int feet;
        private final int[] footX = new int[MOST_FEET];
        private final int[] footY = new int[MOST_FEET];
        private final int[] strength = new int[MOST_FEET];
        /** At 40 * column + i: how much the way along x of the COBBLE's i-th PIECE is above LOOSE, 0 at least. */
        private final int[] aboveX = new int[SIDE * MOST_PIECES];
        /** The same along y, by rows. */
        private final int[] aboveY = new int[SIDE * MOST_PIECES];
        /** What the way of each PIECE to the first cell is above LOOSE. */
        private final int[] aboveFirst = new int[MOST_PIECES];
        private int members;
        /** The COBBLE whose SEATS are held, and how many; NONE: none. */
        private int held = NONE;
        private int heldSeats;
        int cost;
        int firstSeat;
        int secondSeat;
        int wentX;
        int wentY;

        Ground(Pieces pieces, Groups groups) {
            this.pieces = pieces;
            this.groups = groups;
        }

        int addFoot(int x, int y, int itsStrength) {
            if (feet >= MOST_FEET) {
                return NONE;
            }
            footX[feet] = x;
            footY[feet] = y;
            strength[feet] = itsStrength;
            feet++;
            return feet;
        }

        void forget() {
            held = NONE;
        }

        void findSeats(int cobble, int n) {
            if (held == cobble && heldSeats == n) {
                return;
            }
            held = cobble;
            heldSeats = n;
            measure(cobble);
            cost = ABOVE_ALL;
            for (int first = 0; first < CELLS; first++) {
                for (int i = 0; i < members; i++) {
                    aboveFirst[i] = above(first, i);
                }
                int from = n == 1 ? first : first + 1;
                int to = n == 1 ? first + 1 : CELLS;
                for (int second = from; second < to; second++) {
                    tryOut(first, second);
                }
            }
        }

        private void measure(int cobble) {
            members = 0;
            for (int piece = 0; piece < pieces.total; piece++) {
                if (groups.cobbleOf[piece] == cobble) {
                    measurePiece(piece);
                    members++;
                }
            }
        }

        private void measurePiece(int piece) {
            int loose = pieces.loose(piece);
            for (int line = 0; line < SIDE; line++) {
                int at = line * MOST_PIECES + members;
                aboveX[at] = Math.max(0, apart(pieces.x[piece], middle(line)) - loose);
                aboveY[at] = Math.max(0, apart(pieces.y[piece], middle(line)) - loose);
            }
        }

        /** The middle of a column along x, of a row along y. */
        private static int middle(int line) {
            return line * 100 + 50;
        }

        /** The greater of both ways decides, and so what is above LOOSE of each may be taken ahead. */
        private int above(int cell, int member) {
            int alongX = aboveX[cell % SIDE * MOST_PIECES + member];
            int alongY = aboveY[cell / SIDE * MOST_PIECES + member];
            return Math.max(alongX, alongY);
        }

        /** Cells come in their order, so only a lesser COST takes the place of what there is. */
        private void tryOut(int first, int second) {
            int sum = 0;
            for (int i = 0; i < members && sum < cost; i++) {
                sum += aboveFirst[i] == 0 ? 0 : Math.min(aboveFirst[i], above(second, i));
            }
            if (sum < cost) {
                cost = sum;
                firstSeat = first;
                secondSeat = first == second ? NONE : second;
            }
        }

        /** Where a PIECE goes by the FEET, from its COBBLE's one SEAT. */
        void walk(int piece) {
            findSeats(groups.cobbleOf[piece], 1);
            wentX = middle(firstSeat % SIDE);
            wentY = middle(firstSeat / SIDE);
            for (int foot = 0; foot < feet; foot++) {
                if (apart(wentX, footX[foot]) <= 100 && apart(wentY, footY[foot]) <= 100) {
                    int stride = pieces.stride(piece, strength[foot]);
                    wentX = away(wentX, footX[foot], stride);
                    wentY = away(wentY, footY[foot], stride);
                }
            }
        }

        private static int away(int place, int from, int stride) {
            return place >= from ? Math.min(LAST_PLACE, place + stride) : Math.max(0, place - stride);
        }

        boolean isLeftAlone(int piece) {
            walk(piece);
            int loose = pieces.loose(piece);
            return apart(pieces.x[piece], wentX) <= loose && apart(pieces.y[piece], wentY) <= loose;
        }
    }
}
