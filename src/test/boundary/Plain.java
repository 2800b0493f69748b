import java.math.BigInteger;
import java.util.ArrayDeque;
import java.util.ArrayList;
import java.util.HashMap;
import java.util.HashSet;
import java.util.List;
import java.util.Map;
import java.util.Set;
import java.util.TreeMap;

/** A shape told a second time, word by word and set by set, for figures that are too large to tell by hand. */
final class Plain {
    record Cell(long x, long y) {
        Cell less(Cell c) {
            return new Cell(x - c.x, y - c.y);
        }
    }

    record Fraction(BigInteger up, BigInteger low) {
        static Fraction of(long up, long low) {
            BigInteger by = BigInteger.valueOf(up).gcd(BigInteger.valueOf(low));
            return new Fraction(BigInteger.valueOf(up).divide(by), BigInteger.valueOf(low).divide(by));
        }

        Fraction plus(Fraction f) {
            BigInteger sum = up.multiply(f.low).add(f.up.multiply(low));
            BigInteger by = sum.gcd(low.multiply(f.low));
            return new Fraction(sum.divide(by), low.multiply(f.low).divide(by));
        }

        Fraction times(long up2, long low2) {
            Fraction f = of(up2, low2);
            BigInteger product = up.multiply(f.up);
            BigInteger by = product.gcd(low.multiply(f.low));
            return new Fraction(product.divide(by), low.multiply(f.low).divide(by));
        }
    }

    record Place(Fraction x, Fraction y) { }

    private static final String[] TURNS = {"x y", "-y x", "-x -y", "y -x", "y x", "-x y", "-y -x", "x -y"};

    final int base;
    final List<int[]> moves = new ArrayList<>();
    private int[] sets = new int[6];
    private int[] weights = {1, 1, 1, 1, 1, 1};

    Plain(String told) {
        base = told.charAt(0) - '0';
        for (String move : told.substring(2).split("/")) {
            String[] shift = move.substring(1).split("(?<=\\d)");
            moves.add(new int[] {move.charAt(0) - 'a', Integer.parseInt(shift[0]), Integer.parseInt(shift[1])});
        }
    }

    Plain barred(int... newSets) {
        sets = newSets;
        return this;
    }

    Plain weighed(int... newWeights) {
        weights = newWeights;
        return this;
    }

    private static long turned(String sign, long x, long y) {
        long size = sign.endsWith("x") ? x : y;
        return sign.startsWith("-") ? -size : size;
    }

    private static Cell turned(int turn, Cell c) {
        String[] signs = TURNS[turn].split(" ");
        return new Cell(turned(signs[0], c.x, c.y), turned(signs[1], c.x, c.y));
    }

    List<List<Integer>> words(int k) {
        List<List<Integer>> words = new ArrayList<>();
        words.add(List.of());
        for (int length = 1; length <= k; length++) {
            List<List<Integer>> longer = new ArrayList<>();
            for (List<Integer> word : words) {
                for (int i = 0; i < moves.size(); i++) {
                    if (word.isEmpty() || (sets[word.get(word.size() - 1)] & 1 << i) == 0) {
                        List<Integer> next = new ArrayList<>(word);
                        next.add(i);
                        longer.add(next);
                    }
                }
            }
            words = longer;
        }
        return words;
    }

    Cell pointOf(List<Integer> word) {
        Cell p = new Cell(0, 0);
        long scale = 1;
        for (int i = word.size() - 1; i >= 0; i--) {
            int[] move = moves.get(word.get(i));
            Cell t = turned(move[0], p);
            p = new Cell(t.x + scale * move[1], t.y + scale * move[2]);
            scale *= base;
        }
        return p;
    }

    /** The points of a step, each with how much its words weigh (as many as they are, if none has a weight). */
    Map<Cell, Long> step(int k) {
        Map<Cell, Long> step = new HashMap<>();
        for (List<Integer> word : words(k)) {
            long weight = 1;
            for (int i : word) {
                weight *= weights[i];
            }
            step.merge(pointOf(word), weight, Long::sum);
        }
        return step;
    }

    long wide(int k) {
        Set<Cell> cells = step(k).keySet();
        return cells.stream().mapToLong(Cell::x).max().getAsLong()
                - cells.stream().mapToLong(Cell::x).min().getAsLong() + 1;
    }

    long high(int k) {
        Set<Cell> cells = step(k).keySet();
        return cells.stream().mapToLong(Cell::y).max().getAsLong()
                - cells.stream().mapToLong(Cell::y).min().getAsLong() + 1;
    }

    /** The length of the shortest two words that lead to one point; 0: there are none, whatever the length. */
    int firstOne() {
        Set<Cell> seen = new HashSet<>();
        Set<Cell> now = new HashSet<>();
        for (int i = 0; i < moves.size(); i++) {
            for (int j = 0; j < moves.size(); j++) {
                if (i != j) {
                    now.add(between(i, j));
                }
            }
        }
        for (int k = 1; !now.isEmpty(); k++) {
            if (now.contains(new Cell(0, 0))) {
                return k;
            }
            Set<Cell> next = new HashSet<>();
            for (Cell v : now) {
                next.addAll(comesTo(v));
            }
            next.removeIf(v -> Math.max(Math.abs(v.x), Math.abs(v.y)) > 50 || seen.contains(v));
            seen.addAll(next);
            now = next;
        }
        return 0;
    }

    private Cell shift(int i) {
        return new Cell(moves.get(i)[1], moves.get(i)[2]);
    }

    private Cell between(int i, int j) {
        return shift(j).less(shift(i));
    }

    private List<Cell> comesTo(Cell v) {
        List<Cell> next = new ArrayList<>();
        for (int i = 0; i < moves.size(); i++) {
            for (int j = 0; j < moves.size(); j++) {
                Cell d = between(i, j);
                next.add(new Cell(base * v.x + d.x, base * v.y + d.y));
            }
        }
        return next;
    }

    int reach() {
        long size = 0;
        for (int i = 0; i < moves.size(); i++) {
            for (int j = 0; j < moves.size(); j++) {
                Cell d = between(i, j);
                size = Math.max(size, Math.max(Math.abs(d.x), Math.abs(d.y)));
            }
        }
        return (int) size / (base - 1);
    }

    Set<Cell> alive() {
        int reach = reach();
        Set<Cell> alive = new HashSet<>();
        for (int x = -reach; x <= reach; x++) {
            for (int y = -reach; y <= reach; y++) {
                alive.add(new Cell(x, y));
            }
        }
        while (alive.removeIf(v -> comesTo(v).stream().noneMatch(alive::contains))) {
            continue;
        }
        return alive;
    }

    /** For each point of a step those that it is joined with. */
    Map<Cell, Set<Cell>> net(int k) {
        Set<Cell> alive = alive();
        Map<Cell, Set<Cell>> net = new HashMap<>();
        Set<Cell> points = step(k).keySet();
        for (Cell p : points) {
            Set<Cell> joined = new HashSet<>(points);
            joined.removeIf(q -> q.equals(p) || !alive.contains(q.less(p)));
            net.put(p, joined);
        }
        return net;
    }

    static int joints(Map<Cell, Set<Cell>> net) {
        return net.values().stream().mapToInt(Set::size).sum() / 2;
    }

    static int parts(Map<Cell, Set<Cell>> net, Cell without) {
        Set<Cell> left = new HashSet<>(net.keySet());
        left.remove(without);
        int parts = 0;
        while (!left.isEmpty()) {
            parts++;
            ArrayDeque<Cell> open = new ArrayDeque<>(List.of(left.iterator().next()));
            while (!open.isEmpty()) {
                Cell p = open.poll();
                if (left.remove(p)) {
                    open.addAll(net.get(p));
                }
            }
        }
        return parts;
    }

    static int cuts(Map<Cell, Set<Cell>> net) {
        int parts = parts(net, null);
        return (int) net.keySet().stream().filter(p -> parts(net, p) > parts).count();
    }

    long rim(int k) {
        Set<Cell> alive = alive();
        Map<Cell, Long> ways = new HashMap<>();
        alive.forEach(v -> ways.put(v, 1L));
        for (int step = 0; step < k; step++) {
            Map<Cell, Long> before = new HashMap<>(ways);
            for (Cell v : alive) {
                ways.put(v, comesTo(v).stream().mapToLong(w -> before.getOrDefault(w, 0L)).sum());
            }
        }
        ways.remove(new Cell(0, 0));
        return ways.values().stream().mapToLong(Long::longValue).sum();
    }

    private boolean within(Cell p, int q) {
        boolean within = true;
        for (int axis = 1; axis <= 2; axis++) {
            int at = axis;
            long least = moves.stream().mapToInt(move -> move[at]).min().getAsInt();
            long greatest = moves.stream().mapToInt(move -> move[at]).max().getAsInt();
            long size = (base - 1) * (axis == 1 ? p.x : p.y);
            within &= size >= q * least && size <= q * greatest;
        }
        return within;
    }

    /** The places within that one comes to from a place, told in parts of q, the place itself too. */
    Map<Cell, List<Cell>> comeTo(int x, int y, int q) {
        Map<Cell, List<Cell>> next = new TreeMap<>((a, b) -> a.x != b.x ? Long.compare(a.x, b.x)
                : Long.compare(a.y, b.y));
        ArrayDeque<Cell> open = new ArrayDeque<>(List.of(new Cell(x, y)));
        while (!open.isEmpty()) {
            Cell p = open.poll();
            if (within(p, q) && !next.containsKey(p)) {
                List<Cell> to = new ArrayList<>();
                for (int[] move : moves) {
                    to.add(new Cell(base * p.x - (long) q * move[1], base * p.y - (long) q * move[2]));
                }
                next.put(p, to);
                open.addAll(to);
            }
        }
        return next;
    }

    /** How many of those places go on for ever. */
    int goOn(int x, int y, int q) {
        Map<Cell, List<Cell>> next = comeTo(x, y, q);
        while (next.values().removeIf(to -> to.stream().noneMatch(next::containsKey))) {
            continue;
        }
        return next.size();
    }

    /** Where a move leads a place, in fractions. */
    Place lead(int i, Place p) {
        int[] move = moves.get(i);
        Cell ofX = turned(move[0], new Cell(1, 0));
        Cell ofY = turned(move[0], new Cell(0, 1));
        Fraction x = p.x.times(ofX.x, 1).plus(p.y.times(ofY.x, 1)).plus(Fraction.of(move[1], 1)).times(1, base);
        Fraction y = p.x.times(ofX.y, 1).plus(p.y.times(ofY.y, 1)).plus(Fraction.of(move[2], 1)).times(1, base);
        return new Place(x, y);
    }

    Place leadByWord(List<Integer> word, Place p) {
        for (int i = word.size() - 1; i >= 0; i--) {
            p = lead(word.get(i), p);
        }
        return p;
    }

    /** The weights' mean of all images of a place. */
    Place meanOfImages(Place p) {
        long all = 0;
        Place mean = new Place(Fraction.of(0, 1), Fraction.of(0, 1));
        for (int i = 0; i < moves.size(); i++) {
            Place image = lead(i, p);
            mean = new Place(mean.x.plus(image.x.times(weights[i], 1)), mean.y.plus(image.y.times(weights[i], 1)));
            all += weights[i];
        }
        return new Place(mean.x.times(1, all), mean.y.times(1, all));
    }

    int holes(int k) {
        Set<Cell> cells = step(k).keySet();
        long fromX = cells.stream().mapToLong(Cell::x).min().getAsLong() - 1;
        long fromY = cells.stream().mapToLong(Cell::y).min().getAsLong() - 1;
        Map<Cell, Set<Cell>> empty = new HashMap<>();
        for (long x = fromX; x < fromX + wide(k) + 2; x++) {
            for (long y = fromY; y < fromY + high(k) + 2; y++) {
                if (!cells.contains(new Cell(x, y))) {
                    empty.put(new Cell(x, y), new HashSet<>(List.of(new Cell(x + 1, y), new Cell(x - 1, y),
                            new Cell(x, y + 1), new Cell(x, y - 1))));
                }
            }
        }
        empty.values().forEach(beside -> beside.retainAll(empty.keySet()));
        return parts(empty, null) - 1;
    }
}
