import java.math.BigInteger;
import java.util.ArrayDeque;
import java.util.ArrayList;
import java.util.Arrays;
import java.util.HashMap;
import java.util.HashSet;
import java.util.List;
import java.util.Map;
import java.util.Set;
import java.util.TreeMap;
import java.util.TreeSet;

/** Long runs of calls, right and wrong ones, against a second model that is slow and written another way. */
public final class PlainModelTests {
    private static final int BAD = -1, FINDING = -3, STATE = -4, SPENT = -6, NONE = -9;
    private static int wrong = 0;
    private static long calls = 0;

    public static void main(String[] args) {
        for (int seed = 1; seed <= 400; seed++) {
            new Run(seed).go();
        }
        System.out.println(calls + " calls, " + wrong + " answers are not as the model's");
        if (wrong != 0) {
            System.exit(1);
        }
    }

    /** A fraction of whole numbers without a bound. */
    private record Fraction(BigInteger up, BigInteger low) {
        static Fraction of(long up, long low) {
            return new Fraction(BigInteger.valueOf(up), BigInteger.valueOf(low)).lowest();
        }

        Fraction lowest() {
            BigInteger by = up.gcd(low);
            if (low.signum() < 0) {
                by = by.negate();
            }
            return new Fraction(up.divide(by), low.divide(by));
        }

        Fraction plus(Fraction f) {
            return new Fraction(up.multiply(f.low).add(f.up.multiply(low)), low.multiply(f.low)).lowest();
        }

        Fraction times(Fraction f) {
            return new Fraction(up.multiply(f.up), low.multiply(f.low)).lowest();
        }

        Fraction minus(Fraction f) {
            return plus(f.times(of(-1, 1)));
        }

        Fraction by(Fraction f) {
            return new Fraction(up.multiply(f.low), low.multiply(f.up)).lowest();
        }
    }

    private record Cell(long x, long y) implements Comparable<Cell> {
        public int compareTo(Cell c) {
            return x != c.x ? Long.compare(x, c.x) : Long.compare(y, c.y);
        }
    }

    private record Move(int turn, int x, int y) {
        long turnedX(long px, long py) {
            return switch (turn) {
                case 0, 7 -> px;
                case 1, 6 -> -py;
                case 2, 5 -> -px;
                default -> py;
            };
        }

        long turnedY(long px, long py) {
            return switch (turn) {
                case 0, 5 -> py;
                case 1, 4 -> px;
                case 2, 7 -> -py;
                default -> -px;
            };
        }

        Fraction leadX(Fraction px, Fraction py, int base) {
            Fraction a = Fraction.of(turnedX(1, 0), 1), b = Fraction.of(turnedX(0, 1), 1);
            return a.times(px).plus(b.times(py)).plus(Fraction.of(x, 1)).by(Fraction.of(base, 1));
        }

        Fraction leadY(Fraction px, Fraction py, int base) {
            Fraction a = Fraction.of(turnedY(1, 0), 1), b = Fraction.of(turnedY(0, 1), 1);
            return a.times(px).plus(b.times(py)).plus(Fraction.of(y, 1)).by(Fraction.of(base, 1));
        }
    }

    private static final class ModelShape {
        int kind;
        int base;
        List<Move> moves = new ArrayList<>();
        int[] extras = new int[6];
        final Map<Integer, TreeMap<Cell, long[]>> steps = new HashMap<>();
        Set<Cell> living;

        int m() {
            return moves.size();
        }

        boolean straight() {
            return kind == 1 || kind == 2;
        }

        long power(int k) {
            long p = 1;
            for (int i = 0; i < k; i++) {
                p *= base;
            }
            return p;
        }

        Cell pointOf(int[] word) {
            long x = 0, y = 0, scale = 1;
            for (int i = word.length - 1; i >= 0; i--) {
                Move move = moves.get(word[i]);
                long nx = move.turnedX(x, y) + scale * move.x;
                long ny = move.turnedY(x, y) + scale * move.y;
                x = nx;
                y = ny;
                scale *= base;
            }
            return new Cell(x, y);
        }

        boolean allows(int[] word) {
            for (int i = 0; kind == 4 && i + 1 < word.length; i++) {
                if ((extras[word[i]] & 1 << word[i + 1]) != 0) {
                    return false;
                }
            }
            return true;
        }

        long words(int k) {
            return kind == 4 && k == 6 ? wordsBehind(-1, 6) : stepOf(k).values().stream().mapToLong(v -> v[0]).sum();
        }

        long wordsBehind(int before, int left) {
            if (left == 0) {
                return 1;
            }
            long all = 0;
            for (int j = 0; j < m(); j++) {
                if (before < 0 || (extras[before] & 1 << j) == 0) {
                    all += wordsBehind(j, left - 1);
                }
            }
            return all;
        }

        /** Point: how many words, how much they weigh. */
        TreeMap<Cell, long[]> stepOf(int k) {
            return steps.computeIfAbsent(k, this::makeStep);
        }

        TreeMap<Cell, long[]> makeStep(int k) {
            TreeMap<Cell, long[]> step = new TreeMap<>();
            int[] word = new int[k];
            while (true) {
                if (allows(word)) {
                    long[] told = step.computeIfAbsent(pointOf(word), c -> new long[2]);
                    long weight = 1;
                    for (int i : word) {
                        weight *= kind == 3 ? extras[i] : 1;
                    }
                    told[0]++;
                    told[1] += weight;
                }
                int i = k - 1;
                while (i >= 0 && word[i] == m() - 1) {
                    word[i--] = 0;
                }
                if (i < 0) {
                    return step;
                }
                word[i]++;
            }
        }

        int reach() {
            int size = 0;
            for (Move a : moves) {
                for (Move b : moves) {
                    size = Math.max(size, Math.max(Math.abs(a.x - b.x), Math.abs(a.y - b.y)));
                }
            }
            return size / (base - 1);
        }

        List<Cell> nextOf(Cell v) {
            List<Cell> next = new ArrayList<>();
            for (Move a : moves) {
                for (Move b : moves) {
                    next.add(new Cell(base * v.x + b.x - a.x, base * v.y + b.y - a.y));
                }
            }
            return next;
        }

        Set<Cell> living() {
            if (living == null) {
                Set<Cell> now = new HashSet<>();
                for (int x = -reach(); x <= reach(); x++) {
                    for (int y = -reach(); y <= reach(); y++) {
                        now.add(new Cell(x, y));
                    }
                }
                int before = -1;
                while (before != now.size()) {
                    before = now.size();
                    Set<Cell> kept = new HashSet<>();
                    for (Cell v : now) {
                        if (nextOf(v).stream().anyMatch(now::contains)) {
                            kept.add(v);
                        }
                    }
                    now = kept;
                }
                living = now;
            }
            return living;
        }

        int kindByMoves() {
            if (moves.stream().anyMatch(v -> v.turn != 0)) {
                return 0;
            }
            if (new HashSet<>(moves).size() != m()) {
                return 1;
            }
            Set<Cell> seen = new HashSet<>();
            ArrayDeque<Cell> open = new ArrayDeque<>();
            for (Move a : moves) {
                for (Move b : moves) {
                    if (a != b) {
                        open.add(new Cell(b.x - a.x, b.y - a.y));
                    }
                }
            }
            while (!open.isEmpty()) {
                Cell v = open.poll();
                if (Math.max(Math.abs(v.x), Math.abs(v.y)) <= 40 && seen.add(v)) {
                    open.addAll(nextOf(v));
                }
            }
            return seen.contains(new Cell(0, 0)) ? 1 : 2;
        }

        Cell between(int i, int j) {
            return new Cell(moves.get(j).x - moves.get(i).x, moves.get(j).y - moves.get(i).y);
        }

        int beside(int i) {
            int bits = 0;
            for (int j = 0; j < m(); j++) {
                bits |= j != i && living().contains(between(i, j)) ? 1 << j : 0;
            }
            return bits;
        }

        boolean joined(Cell a, Cell b) {
            return !a.equals(b) && living().contains(new Cell(a.x - b.x, a.y - b.y));
        }

        int partsOf(List<Cell> cells) {
            Set<Cell> left = new HashSet<>(cells);
            int parts = 0;
            for (Cell first : cells) {
                if (left.remove(first)) {
                    parts++;
                    ArrayDeque<Cell> open = new ArrayDeque<>(List.of(first));
                    while (!open.isEmpty()) {
                        Cell c = open.poll();
                        for (Cell d : cells) {
                            if (left.contains(d) && joined(c, d)) {
                                left.remove(d);
                                open.add(d);
                            }
                        }
                    }
                }
            }
            return parts;
        }

        int jointsOf(List<Cell> cells) {
            int joints = 0;
            for (Cell a : cells) {
                for (Cell b : cells) {
                    joints += joined(a, b) ? 1 : 0;
                }
            }
            return joints / 2;
        }

        int cutsOf(List<Cell> cells) {
            int parts = partsOf(cells), cuts = 0;
            for (Cell c : cells) {
                List<Cell> less = new ArrayList<>(cells);
                less.remove(c);
                cuts += partsOf(less) > parts ? 1 : 0;
            }
            return cuts;
        }

        long waysFrom(Cell v, int k, Map<String, Long> known) {
            if (k == 0) {
                return 1;
            }
            String key = v.x + " " + v.y + " " + k;
            Long before = known.get(key);
            if (before != null) {
                return before;
            }
            long all = 0;
            for (Cell w : nextOf(v)) {
                all += living().contains(w) ? waysFrom(w, k - 1, known) : 0;
            }
            known.put(key, all);
            return all;
        }

        long rim(int k) {
            long all = 0;
            Map<String, Long> known = new HashMap<>();
            for (Cell v : living()) {
                all += v.x == 0 && v.y == 0 ? 0 : waysFrom(v, k, known);
            }
            return all;
        }

        boolean within(Cell p, int q) {
            int leastX = moves.stream().mapToInt(Move::x).min().getAsInt();
            int mostX = moves.stream().mapToInt(Move::x).max().getAsInt();
            int leastY = moves.stream().mapToInt(Move::y).min().getAsInt();
            int mostY = moves.stream().mapToInt(Move::y).max().getAsInt();
            double by = base - 1, x = (double) p.x / q, y = (double) p.y / q, e = 1e-9;
            return x >= leastX / by - e && x <= mostX / by + e && y >= leastY / by - e && y <= mostY / by + e;
        }

        /** -1: too many places; else how many go on for ever. */
        int goesOn(Cell p, int q) {
            Map<Cell, List<Cell>> next = new HashMap<>();
            ArrayDeque<Cell> open = new ArrayDeque<>();
            if (within(p, q)) {
                open.add(p);
            }
            while (!open.isEmpty()) {
                Cell c = open.poll();
                if (next.containsKey(c)) {
                    continue;
                }
                List<Cell> to = new ArrayList<>();
                for (Move move : moves) {
                    Cell d = new Cell(base * c.x - (long) q * move.x, base * c.y - (long) q * move.y);
                    if (within(d, q)) {
                        to.add(d);
                    }
                }
                next.put(c, to);
                open.addAll(to);
            }
            if (next.size() > 2000) {
                return -1;
            }
            while (next.values().removeIf(to -> to.stream().noneMatch(next::containsKey))) {
                continue;
            }
            return next.size();
        }

        int holes(Set<Cell> cells) {
            long lx = cells.stream().mapToLong(Cell::x).min().getAsLong() - 1;
            long gx = cells.stream().mapToLong(Cell::x).max().getAsLong() + 1;
            long ly = cells.stream().mapToLong(Cell::y).min().getAsLong() - 1;
            long gy = cells.stream().mapToLong(Cell::y).max().getAsLong() + 1;
            if ((gx - lx + 1) * (gy - ly + 1) > 1600) {
                return SPENT;
            }
            Set<Cell> empty = new TreeSet<>();
            for (long x = lx; x <= gx; x++) {
                for (long y = ly; y <= gy; y++) {
                    if (!cells.contains(new Cell(x, y))) {
                        empty.add(new Cell(x, y));
                    }
                }
            }
            int parts = 0;
            while (!empty.isEmpty()) {
                parts++;
                ArrayDeque<Cell> open = new ArrayDeque<>(List.of(empty.iterator().next()));
                while (!open.isEmpty()) {
                    Cell c = open.poll();
                    if (empty.remove(c)) {
                        open.addAll(List.of(new Cell(c.x + 1, c.y), new Cell(c.x - 1, c.y),
                                new Cell(c.x, c.y + 1), new Cell(c.x, c.y - 1)));
                    }
                }
            }
            return parts - 1;
        }

        /** Four times the same round turns nothing, so its place is a plain quotient. */
        Fraction[] placeOf(int[] word, int[] round) {
            Fraction x = Fraction.of(0, 1), y = Fraction.of(0, 1);
            for (int i = 4 * round.length - 1; i >= 0; i--) {
                Move move = moves.get(round[i % round.length]);
                Fraction nx = move.leadX(x, y, base);
                y = move.leadY(x, y, base);
                x = nx;
            }
            BigInteger scale = BigInteger.valueOf(base).pow(4 * round.length);
            Fraction wide = new Fraction(scale, scale.subtract(BigInteger.ONE));
            x = x.times(wide);
            y = y.times(wide);
            for (int i = word.length - 1; i >= 0; i--) {
                Fraction nx = moves.get(word[i]).leadX(x, y, base);
                y = moves.get(word[i]).leadY(x, y, base);
                x = nx;
            }
            return new Fraction[] {x, y};
        }

        /** The weights' mean of the moves' images, as it acts on (0, 0), (1, 0) and (0, 1), tells the mean. */
        Fraction[] mean() {
            Fraction zero = Fraction.of(0, 1), one = Fraction.of(1, 1);
            Fraction[] o = image(zero, zero), e = image(one, zero), f = image(zero, one);
            Fraction a = one.minus(e[0].minus(o[0])), b = o[0].minus(f[0]);
            Fraction c = o[1].minus(e[1]), d = one.minus(f[1].minus(o[1]));
            // a x + b y = o0, c x + d y = o1, by elimination
            Fraction times = c.by(a);
            Fraction y = o[1].minus(times.times(o[0])).by(d.minus(times.times(b)));
            Fraction x = o[0].minus(b.times(y)).by(a);
            return new Fraction[] {x, y};
        }

        Fraction[] image(Fraction px, Fraction py) {
            Fraction x = Fraction.of(0, 1), y = Fraction.of(0, 1);
            long all = 0;
            for (int i = 0; i < m(); i++) {
                all += kind == 3 ? extras[i] : 1;
            }
            for (int i = 0; i < m(); i++) {
                Fraction weight = Fraction.of(kind == 3 ? extras[i] : 1, all);
                x = x.plus(weight.times(moves.get(i).leadX(px, py, base)));
                y = y.plus(weight.times(moves.get(i).leadY(px, py, base)));
            }
            return new Fraction[] {x, y};
        }
    }

    /** The document, call by call. */
    private static final class Model {
        final int[][] rows = new int[6][];
        final byte[][] texts = new byte[4][];
        final ModelShape[] shapes = new ModelShape[8];
        final int[] found = new int[6];
        long many = 0, upper = 0, lower = 1;
        int asked = 0, finding = 0;

        int find(int f) {
            finding = f;
            found[f]++;
            return FINDING;
        }

        static boolean out(int i, int size) {
            return i < 0 || i >= size;
        }

        int row(int r, int n) {
            if (out(r, 6) || n > 40) return BAD;
            if (n < 0) return find(5);
            rows[r] = new int[n];
            return n;
        }

        int lay(int r, int i, int v) {
            if (out(r, 6)) return BAD;
            if (rows[r] == null) return find(1);
            if (out(i, rows[r].length)) return find(2);
            asked = rows[r][i];
            rows[r][i] = v;
            return 1;
        }

        int tear(int r) {
            if (out(r, 6)) return BAD;
            if (rows[r] == null) return find(1);
            rows[r] = null;
            return 1;
        }

        int copy(int r, int i, int to, int j, int n) {
            if (out(r, 6) || out(to, 6)) return BAD;
            if (n < 0) return find(5);
            if (rows[r] == null || rows[to] == null) return find(1);
            if (i < 0 || j < 0 || (long) i + n > rows[r].length || (long) j + n > rows[to].length) return find(2);
            int[] taken = Arrays.copyOfRange(rows[r], i, i + n);
            for (int a = 0; a < n; a++) {
                rows[to][j + a] = taken[a];
            }
            return 1;
        }

        int average(int r) {
            if (out(r, 6)) return BAD;
            if (rows[r] == null) return find(1);
            if (rows[r].length == 0) return find(4);
            BigInteger sum = BigInteger.ZERO;
            for (int v : rows[r]) {
                sum = sum.add(BigInteger.valueOf(v));
            }
            asked = sum.divide(BigInteger.valueOf(rows[r].length)).intValue();
            return 1;
        }

        int text(int t, int n) {
            if (out(t, 4) || n > 60) return BAD;
            if (n < 0) return find(5);
            texts[t] = new byte[n];
            Arrays.fill(texts[t], (byte) ' ');
            return n;
        }

        int put(int t, int i, int v) {
            if (out(t, 4)) return BAD;
            if (texts[t] == null) return find(1);
            if (out(i, texts[t].length)) return find(2);
            int was = texts[t][i];
            texts[t][i] = (byte) v;
            return was + 1000;
        }

        /** The longest beginning that some text of moves begins with, by the states of a machine. */
        static int faultOf(byte[] text) {
            int state = 0, moves = 0;
            for (int i = 0; i < text.length; i++) {
                char c = (char) (text[i] & 255);
                boolean figure = c >= '0' && c <= '9';
                if (state == 0 && c >= '2' && c <= '4') state = 1;
                else if (state == 1 && c == '/' && moves < 6) state = 2;
                else if (state == 2 && c >= 'a' && c <= 'h') state = 3;
                else if (state == 3 && c == '-') state = 4;
                else if ((state == 3 || state == 4) && figure) state = 5;
                else if (state == 5 && c == '-') state = 6;
                else if ((state == 5 || state == 6) && figure) {
                    state = 1;
                    moves++;
                } else return i;
            }
            return state == 1 && moves > 0 ? NONE : text.length;
        }

        int fault(int t) {
            if (out(t, 4)) return BAD;
            if (texts[t] == null) return find(1);
            return faultOf(texts[t]);
        }

        int shape(int s, int t) {
            if (out(s, 8) || out(t, 4)) return BAD;
            if (texts[t] == null) return find(1);
            if (faultOf(texts[t]) != NONE) return STATE;
            String told = new String(texts[t], java.nio.charset.StandardCharsets.ISO_8859_1);
            String[] parts = told.split("/");
            ModelShape shape = new ModelShape();
            shape.base = Integer.parseInt(parts[0]);
            for (int i = 1; i < parts.length; i++) {
                int mid = parts[i].charAt(1) == '-' ? 3 : 2;
                shape.moves.add(new Move(parts[i].charAt(0) - 'a', Integer.parseInt(parts[i].substring(1, mid)),
                        Integer.parseInt(parts[i].substring(mid))));
            }
            shape.kind = shape.kindByMoves();
            shapes[s] = shape;
            return shape.kind;
        }

        int weighed(int s, int of, int r) {
            if (out(s, 8) || out(of, 8) || out(r, 6)) return BAD;
            if (shapes[of] == null || rows[r] == null) return find(1);
            if (rows[r].length != shapes[of].m()) return find(5);
            if (Arrays.stream(rows[r]).anyMatch(v -> v < 1 || v > 99)) return find(3);
            shapes[s] = told(3, of, r);
            return Arrays.stream(rows[r]).sum();
        }

        int barred(int s, int of, int r) {
            if (out(s, 8) || out(of, 8) || out(r, 6)) return BAD;
            if (shapes[of] == null || rows[r] == null) return find(1);
            if (rows[r].length != shapes[of].m()) return find(5);
            int m = shapes[of].m();
            if (Arrays.stream(rows[r]).anyMatch(v -> (v & ~((1 << m) - 1)) != 0)) return find(3);
            shapes[s] = told(4, of, r);
            return Arrays.stream(rows[r]).map(Integer::bitCount).sum();
        }

        ModelShape told(int kind, int of, int r) {
            ModelShape shape = new ModelShape();
            shape.kind = kind;
            shape.base = shapes[of].base;
            shape.moves = new ArrayList<>(shapes[of].moves);
            shape.extras = Arrays.copyOf(rows[r], 6);
            return shape;
        }

        int ledBack(int s, int r) {
            if (out(s, 8) || out(r, 6)) return BAD;
            if (rows[r] == null) return find(1);
            int h = rows[r].length;
            if (h < 2 || h > 4) return find(5);
            if (Arrays.stream(rows[r]).anyMatch(v -> (v & ~((1 << h) - 1)) != 0)) return find(3);
            ModelShape shape = new ModelShape();
            shape.base = h;
            for (int y = 0; y < h; y++) {
                for (int x = 0; x < h; x++) {
                    if ((rows[r][y] & 1 << x) != 0) shape.moves.add(new Move(0, x, y));
                }
            }
            if (shape.m() == 0 || shape.m() > 6) return find(3);
            shape.kind = shape.kindByMoves();
            shapes[s] = shape;
            return shape.kind;
        }

        int drop(int s) {
            if (out(s, 8)) return BAD;
            if (shapes[s] == null) return find(1);
            shapes[s] = null;
            return 1;
        }

        int told(int s, int what) {
            if (out(s, 8) || out(what, 3)) return BAD;
            if (shapes[s] == null) return find(1);
            asked = new int[] {shapes[s].kind, shapes[s].base, shapes[s].m()}[what];
            return 1;
        }

        int move(int s, int i, int what) {
            if (out(s, 8) || out(what, 3)) return BAD;
            if (shapes[s] == null) return find(1);
            if (out(i, shapes[s].m())) return find(2);
            Move move = shapes[s].moves.get(i);
            asked = new int[] {move.turn, move.x, move.y}[what];
            return 1;
        }

        int mark(int s, int kind) {
            if (out(s, 8) || kind < 1 || kind > 4) return BAD;
            ModelShape shape = shapes[s];
            if (shape == null) return find(1);
            if (kind == 1 && shape.straight()) return shape.reach();
            if (kind == 2 && shape.kind == 2) return shape.m();
            if (kind == 3 && shape.kind == 3) return Arrays.stream(shape.extras).sum();
            if (kind == 4 && shape.kind == 4) return Arrays.stream(shape.extras).map(Integer::bitCount).sum();
            return find(3);
        }

        int badWord(int s, int r, int n) {
            if (shapes[s] == null || rows[r] == null) return find(1);
            if (rows[r].length < n) return find(5);
            for (int i = 0; i < n; i++) {
                if (out(rows[r][i], shapes[s].m())) return find(3);
            }
            return 0;
        }

        int point(int s, int r, int k, boolean y) {
            if (out(s, 8) || out(r, 6) || out(k, 9)) return BAD;
            int bad = badWord(s, r, k);
            if (bad != 0) return bad;
            Cell point = shapes[s].pointOf(Arrays.copyOf(rows[r], k));
            asked = (int) (y ? point.y : point.x);
            return 1;
        }

        int place(int s, int r, int k, int n, boolean y) {
            if (out(s, 8) || out(r, 6) || out(k, 7) || n < 1 || n > 6) return BAD;
            int bad = badWord(s, r, k + n);
            if (bad != 0) return bad;
            tell(shapes[s].placeOf(Arrays.copyOf(rows[r], k), Arrays.copyOfRange(rows[r], k, k + n))[y ? 1 : 0]);
            return 1;
        }

        void tell(Fraction f) {
            upper = f.up.longValueExact();
            lower = f.low.longValueExact();
        }

        int there(int s, boolean asTold) {
            if (out(s, 8) || !asTold) return BAD;
            return shapes[s] == null ? find(1) : 0;
        }

        int straight(int s, boolean asTold) {
            int bad = there(s, asTold);
            return bad != 0 ? bad : shapes[s].straight() ? 0 : find(3);
        }

        int words(int s, int k) {
            int bad = there(s, !out(k, 7));
            if (bad != 0) return bad;
            many = shapes[s].words(k);
            return 1;
        }

        int points(int s, int k) {
            int bad = there(s, !out(k, 6));
            if (bad != 0) return bad;
            asked = (int) shapes[s].stepOf(k).values().stream().mapToLong(v -> v[0]).max().orElse(0);
            return shapes[s].stepOf(k).size();
        }

        int at(int s, int k, int x, int y) {
            int bad = there(s, !out(k, 6));
            if (bad != 0) return bad;
            long[] told = shapes[s].stepOf(k).get(new Cell(x, y));
            return told == null ? 0 : (int) told[0];
        }

        int board(int s, int k, int what) {
            int bad = there(s, !out(k, 6) && !out(what, 4));
            if (bad != 0) return bad;
            Set<Cell> cells = shapes[s].stepOf(k).keySet();
            if (cells.isEmpty()) return find(4);
            java.util.LongSummaryStatistics told =
                    cells.stream().mapToLong(c -> what < 2 ? c.x : c.y).summaryStatistics();
            asked = (int) (what % 2 == 0 ? told.getMin() : told.getMax());
            return 1;
        }

        int broken(int s) {
            int bad = there(s, true);
            if (bad != 0) return bad;
            for (int k = 1; k <= 5; k++) {
                if (shapes[s].stepOf(k).size() != Math.round(Math.pow(shapes[s].m(), k))) return k;
            }
            return NONE;
        }

        int alive(int s) {
            int bad = straight(s, true);
            return bad != 0 ? bad : shapes[s].living().size();
        }

        int meets(int s, int x, int y) {
            int bad = straight(s, true);
            return bad != 0 ? bad : shapes[s].living().contains(new Cell(x, y)) ? 1 : 0;
        }

        int beside(int s, int i) {
            int bad = straight(s, true);
            if (bad != 0) return bad;
            if (out(i, shapes[s].m())) return find(2);
            return shapes[s].beside(i);
        }

        int hangs(int s) {
            int bad = straight(s, true);
            if (bad != 0) return bad;
            int all = (1 << shapes[s].m()) - 1, set = 1, before = 0;
            while (before != set) {
                before = set;
                for (int i = 0; i < shapes[s].m(); i++) {
                    if ((before & 1 << i) != 0) set |= shapes[s].beside(i);
                }
            }
            return set == all ? 1 : 0;
        }

        int net(int s, int k) {
            int bad = straight(s, !out(k, 4));
            if (bad != 0) return bad;
            List<Cell> cells = new ArrayList<>(shapes[s].stepOf(k).keySet());
            many = shapes[s].partsOf(cells);
            return shapes[s].jointsOf(cells);
        }

        int rings(int s, int k) {
            int bad = straight(s, !out(k, 4));
            if (bad != 0) return bad;
            List<Cell> cells = new ArrayList<>(shapes[s].stepOf(k).keySet());
            many = shapes[s].cutsOf(cells);
            return shapes[s].jointsOf(cells) - cells.size() + shapes[s].partsOf(cells);
        }

        int in(int s, int x, int y, int q) {
            int bad = straight(s, Math.abs((long) x) <= 200 && Math.abs((long) y) <= 200 && q >= 1 && q <= 12);
            if (bad != 0) return bad;
            int left = shapes[s].goesOn(new Cell(x, y), q);
            if (left < 0) return SPENT;
            asked = left;
            return left > 0 ? 1 : 0;
        }

        int rim(int s, int k) {
            int bad = straight(s, !out(k, 7));
            if (bad != 0) return bad;
            many = shapes[s].rim(k);
            return 1;
        }

        int mean(int s, boolean y) {
            int bad = there(s, true);
            if (bad != 0) return bad;
            if (shapes[s].kind == 4) return find(3);
            tell(shapes[s].mean()[y ? 1 : 0]);
            return 1;
        }

        int weighs(int s, int k, int x, int y) {
            int bad = there(s, !out(k, 6));
            if (bad != 0) return bad;
            if (shapes[s].kind != 3) return find(3);
            long[] told = shapes[s].stepOf(k).get(new Cell(x, y));
            many = told == null ? 0 : told[1];
            return 1;
        }

        int holes(int s, int k) {
            int bad = there(s, !out(k, 4));
            if (bad != 0) return bad;
            Set<Cell> cells = shapes[s].stepOf(k).keySet();
            return cells.isEmpty() ? 0 : shapes[s].holes(cells);
        }

        int line(int s, int k, int y) {
            int bad = there(s, !out(k, 4));
            if (bad != 0) return bad;
            Set<Cell> cells = shapes[s].stepOf(k).keySet();
            if (cells.isEmpty()) return find(4);
            long lx = cells.stream().mapToLong(Cell::x).min().getAsLong();
            long gx = cells.stream().mapToLong(Cell::x).max().getAsLong();
            long ly = cells.stream().mapToLong(Cell::y).min().getAsLong();
            long gy = cells.stream().mapToLong(Cell::y).max().getAsLong();
            if (y < 0 || ly + y > gy) return find(2);
            if (gx - lx + 1 > 60) return SPENT;
            many = 0;
            int count = 0;
            for (long x = lx; x <= gx; x++) {
                if (cells.contains(new Cell(x, ly + y))) {
                    many += 1L << (x - lx);
                    count++;
                }
            }
            return count;
        }

        int same(int s, int t, int k) {
            if (out(s, 8) || out(t, 8) || out(k, 5)) return BAD;
            if (shapes[s] == null || shapes[t] == null) return find(1);
            TreeSet<Cell> a = new TreeSet<>(shapes[s].stepOf(k).keySet());
            TreeSet<Cell> b = new TreeSet<>(shapes[t].stepOf(k).keySet());
            if (a.isEmpty() && b.isEmpty()) {
                asked = 0;
                return 1;
            }
            if (a.isEmpty() || b.isEmpty()) return 0;
            // a shift keeps the order of cells, so that the first comes to the first
            long dx = b.first().x - a.first().x, dy = b.first().y - a.first().y;
            TreeSet<Cell> moved = new TreeSet<>();
            for (Cell c : a) {
                moved.add(new Cell(c.x + dx, c.y + dy));
            }
            if (!moved.equals(b)) return 0;
            asked = (int) dx;
            return 1;
        }

        int count(int what) {
            if (out(what, 4)) return BAD;
            Object[][] all = {rows, texts, shapes, shapes};
            int there = 0;
            for (Object o : all[what]) {
                there += o != null && (what < 3 || ((ModelShape) o).straight()) ? 1 : 0;
            }
            return there;
        }

        int findings(int f) {
            return f < 1 || f > 5 ? BAD : found[f];
        }

        long digest() {
            List<Integer> all = new ArrayList<>();
            for (ModelShape shape : shapes) {
                if (shape == null) {
                    all.add(-1);
                    continue;
                }
                all.addAll(List.of(shape.kind, shape.base, shape.m()));
                for (int i = 0; i < shape.m(); i++) {
                    Move move = shape.moves.get(i);
                    all.addAll(List.of(move.turn, move.x, move.y));
                    if (shape.kind >= 3) all.add(shape.extras[i]);
                }
            }
            for (int[] row : rows) {
                all.add(row == null ? -1 : row.length);
                for (int i = 0; row != null && i < row.length; i++) all.add(row[i]);
            }
            for (byte[] text : texts) {
                all.add(text == null ? -1 : text.length);
                for (int i = 0; text != null && i < text.length; i++) all.add((int) text[i]);
            }
            long h = 17;
            for (int v : all) h = 31 * h + v;
            return h;
        }
    }

    /** One run of calls, by a number that tells all of them. */
    private static final class Run {
        final int seed;
        long state;
        final SelfShapes real = new SelfShapes();
        final Model model = new Model();
        final int widest;

        Run(int seed) {
            this.seed = seed;
            state = seed * 0x9E3779B97F4A7C15L;
            widest = new int[] {1, 2, 3, 9}[seed % 4];
        }

        int any(int n) {
            state = state * 6364136223846793005L + 1442695040888963407L;
            return (int) ((state >>> 33) % n);
        }

        int between(int least, int most) {
            return least + any(most - least + 1);
        }

        /** Mostly a number below n, now and then one that is none. */
        int number(int n) {
            int[] none = {-1, n, n + 1, Integer.MIN_VALUE, Integer.MAX_VALUE, -7};
            return any(40) == 0 ? none[any(none.length)] : any(n);
        }

        void due(String call, long got, long want) {
            calls++;
            if (got != want && wrong++ < 50) {
                System.out.println("run " + seed + ": " + call + " answered " + got + ", the model " + want);
            }
        }

        void go() {
            tellEverything("new");
            for (int i = 0; i < 90; i++) {
                int what = any(10);
                if (what < 2 || i < 3) {
                    tellShape();
                } else if (what < 4) {
                    tellRow();
                } else {
                    for (int j = 0; j < 6; j++) {
                        ask(any(46));
                    }
                }
            }
        }

        String figure() {
            return Integer.toString(between(-widest, widest));
        }

        void tellShape() {
            StringBuilder told = new StringBuilder().append((char) between('2', '4'));
            int moves = between(1, any(20) == 0 ? 7 : 6);
            boolean turned = any(3) == 0;
            boolean above = any(3) == 0;
            for (int i = 0; i < moves; i++) {
                told.append('/').append((char) (turned ? between('a', 'h') : 'a'));
                told.append(above ? "" + any(widest + 1) + any(widest + 1) : figure() + figure());
            }
            if (any(8) == 0) {
                told.setCharAt(any(told.length()), "2/a-9 5h".charAt(any(8)));
            }
            if (any(12) == 0) {
                told.setLength(any(told.length()));
            }
            int t = any(4), s = any(8);
            due("text", real.text(t, told.length()), model.text(t, told.length()));
            for (int i = 0; i < told.length(); i++) {
                due("put", real.put(t, i, told.charAt(i)), model.put(t, i, told.charAt(i)));
            }
            due("fault of " + told, real.fault(t), model.fault(t));
            due("shape of " + told, real.shape(s, t), model.shape(s, t));
            tellEverything("shape of " + told);
        }

        void tellRow() {
            int r = any(6), of = any(8), s = any(8);
            int m = model.shapes[of] == null ? any(7) : model.shapes[of].m();
            int use = any(4);
            int size = any(15) == 0 ? any(9) : use == 0 ? any(14) : use == 3 ? between(2, 4) : m;
            due("row", real.row(r, size), model.row(r, size));
            boolean thin = any(2) == 0;
            for (int i = 0; i < size; i++) {
                int v = use == 0 ? any(Math.max(1, m)) : use == 1 ? between(1, 99)
                        : use == 2 ? any(1 << m) & (thin ? any(1 << m) : -1) : any(1 << size) & any(1 << size);
                v = any(60) == 0 ? number(100) : v;
                due("lay", real.lay(r, i, v), model.lay(r, i, v));
            }
            if (use == 1) {
                due("weighed", real.weighed(s, of, r), model.weighed(s, of, r));
            } else if (use == 2) {
                due("barred", real.barred(s, of, r), model.barred(s, of, r));
            } else if (use == 3) {
                due("ledBack", real.ledBack(s, r), model.ledBack(s, r));
            } else {
                askWord(of, r, size);
            }
            tellEverything("row " + use);
        }

        void askWord(int s, int r, int size) {
            for (int j = 0; j < 6; j++) {
                int k = any(Math.min(9, size + 1)), n = between(1, 6);
                boolean y = any(2) == 0;
                due("point", real.point(s, r, k, y), model.point(s, r, k, y));
                due("asked", real.asked(), model.asked);
                k = any(7);
                due("place", real.place(s, r, k, n, y), model.place(s, r, k, n, y));
                due("upper", real.upper(), model.upper);
                due("lower", real.lower(), model.lower);
            }
        }

        void tellEverything(String behind) {
            due("many behind " + behind, real.many(), model.many);
            due("asked behind " + behind, real.asked(), model.asked);
            due("upper behind " + behind, real.upper(), model.upper);
            due("lower behind " + behind, real.lower(), model.lower);
            due("finding behind " + behind, real.finding(), model.finding);
            for (int f = 0; f <= 6; f++) {
                due("findings behind " + behind, real.findings(f), model.findings(f));
            }
            for (int what = -1; what <= 4; what++) {
                due("count behind " + behind, real.count(what), model.count(what));
            }
            due("digest behind " + behind, real.digest(), model.digest());
        }

        void ask(int call) {
            int s = number(8), r = number(6), t = number(4), what = number(4), i = number(6);
            int k = number(7), x = between(-4, 4), y = between(-4, 4);
            boolean side = any(2) == 0;
            if (any(20) == 0) {
                x = number(300);
            }
            if (call == 21 || call == 33) {
                // most points of a late step are far off: ask for one that is there
                Cell c = pick(s, k);
                if (c != null && any(3) > 0) {
                    x = (int) c.x;
                    y = (int) c.y;
                }
            }
            String name = "call " + call + " (" + s + ", " + r + ", " + t + ", " + what + ", " + i + ", " + k + ", "
                    + x + ", " + y + ", " + side + ")";
            if (call < 20) {
                askFirst(name, call, new int[] {s, r, t, what, i, k, x, y}, side);
            } else {
                askNext(name, call, new int[] {s, r, t, what, i, k, x, y}, side);
            }
            tellEverything(name);
        }

        Cell pick(int s, int k) {
            if (s < 0 || s >= 8 || k < 0 || k > 5 || model.shapes[s] == null) {
                return null;
            }
            List<Cell> cells = new ArrayList<>(model.shapes[s].stepOf(k).keySet());
            return cells.isEmpty() ? null : cells.get(any(cells.size()));
        }

        void askFirst(String name, int call, int[] v, boolean side) {
            int s = v[0], r = v[1], t = v[2], what = v[3], i = v[4], k = v[5], x = v[6];
            int r2 = number(6), s2 = number(8), n = number(7), j = number(6);
            int rowSize = any(9) == 0 ? n + 38 : n, dropped = any(6) == 0 ? s : -1;
            switch (call) {
                case 0 -> due(name, real.row(r, rowSize), model.row(r, rowSize));
                case 1, 2 -> due(name, real.lay(r, i, x), model.lay(r, i, x));
                case 3 -> due(name, real.tear(r), model.tear(r));
                case 4, 5 -> due(name, real.copy(r, i, r2, j, n), model.copy(r, i, r2, j, n));
                case 6 -> due(name, real.average(r), model.average(r));
                case 7 -> due(name, real.text(t, n), model.text(t, n));
                case 8 -> due(name, real.put(t, i, x), model.put(t, i, x));
                case 9 -> due(name, real.fault(t), model.fault(t));
                case 10 -> due(name, real.shape(s, t), model.shape(s, t));
                case 11 -> due(name, real.weighed(s, s2, r), model.weighed(s, s2, r));
                case 12 -> due(name, real.barred(s, s2, r), model.barred(s, s2, r));
                case 13 -> due(name, real.ledBack(s, r), model.ledBack(s, r));
                case 14 -> due(name, real.drop(dropped), model.drop(dropped));
                case 15 -> due(name, real.told(s, what), model.told(s, what));
                case 16 -> due(name, real.move(s, i, what), model.move(s, i, what));
                case 17 -> due(name, real.mark(s, what + 1), model.mark(s, what + 1));
                case 18 -> due(name, real.point(s, r, k, side), model.point(s, r, k, side));
                default -> due(name, real.place(s, r, k, n, side), model.place(s, r, k, n, side));
            }
        }

        /** Places within the bounds of a shape: others are out at once. */
        void askIn(String name, int s, int q) {
            int least = 0, most = 0, by = 1;
            if (s >= 0 && s < 8 && model.shapes[s] != null) {
                for (Move move : model.shapes[s].moves) {
                    least = Math.min(least, Math.min(move.x, move.y));
                    most = Math.max(most, Math.max(move.x, move.y));
                }
                by = model.shapes[s].base - 1;
            }
            for (int j = 0; j < 4; j++) {
                int x = between(least * q, most * q) / by, y = between(least * q, most * q) / by;
                due(name + " in " + x + " " + y + " " + q, real.in(s, x, y, q), model.in(s, x, y, q));
                due(name + " asked", real.asked(), model.asked);
            }
        }

        void askNext(String name, int call, int[] v, boolean side) {
            int s = v[0], what = v[3], i = v[4], k = v[5], x = v[6], y = v[7];
            int s2 = number(8), q = between(1, 12) + (any(40) == 0 ? number(3) : 0);
            int low = any(3) > 0 ? Math.floorMod(k, 4) : k;
            switch (call) {
                case 20 -> due(name, real.points(s, k), model.points(s, k));
                case 21 -> due(name, real.at(s, k, x, y), model.at(s, k, x, y));
                case 22 -> due(name, real.board(s, k, what), model.board(s, k, what));
                case 23 -> due(name, real.broken(s), model.broken(s));
                case 24 -> due(name, real.alive(s), model.alive(s));
                case 25 -> due(name, real.meets(s, x, y), model.meets(s, x, y));
                case 26 -> due(name, real.beside(s, i), model.beside(s, i));
                case 27 -> due(name, real.hangs(s), model.hangs(s));
                case 28 -> due(name, real.net(s, low), model.net(s, low));
                case 29 -> due(name, real.rings(s, low), model.rings(s, low));
                case 30 -> due(name, real.in(s, 3 * x, 3 * y, q), model.in(s, 3 * x, 3 * y, q));
                case 38, 39, 40 -> askIn(name, s, q);
                case 31 -> due(name, real.rim(s, k), model.rim(s, k));
                case 32 -> due(name, real.mean(s, side), model.mean(s, side));
                case 33, 41 -> due(name, real.weighs(s, k, x, y), model.weighs(s, k, x, y));
                case 34, 42 -> due(name, real.holes(s, low), model.holes(s, low));
                case 35, 43 -> due(name, real.line(s, low, what * i), model.line(s, low, what * i));
                case 36, 44 -> due(name, real.same(s, s2, low), model.same(s, s2, low));
                default -> due(name, real.words(s, k), model.words(s, k));
            }
        }
    }
}
