import java.util.Map;

/** Promises 33 to 37: weights and means, pictures, and shapes with the same points. */
final class PictureSentences extends Sentences {
    private static final String ALL_TURNS = "4/h-9-9/g99/f-99/e9-9/d-19/c0-7";
    private static final String CELLS_1600 = "3/c23/g16";
    private static final String CELLS_1602 = "4/f4-9/c18";
    private static final String WIDE_60 = "3/f11/h42";
    private static final String WIDE_61 = "4/a-60/a60";
    private static final String RING = "4/a10/a20/a01/a31/a12/a22";

    static void all() {
        mean();
        weighs();
        holes();
        holesRefused();
        line();
        lineRefused();
        same();
        sameFar();
        sameRefused();
    }

    private static Plain.Fraction told() {
        holds("the lower number is above 0", x.lower() > 0);
        Plain.Fraction lowest = Plain.Fraction.of(x.upper(), x.lower());
        due("in lowest terms", lowest.low().longValueExact(), x.lower());
        return lowest;
    }

    private static void meanFits(String what, int s, Plain plain) {
        due(what + ", x", x.mean(s, false), 1);
        Plain.Fraction px = told();
        due(what + ", y", x.mean(s, true), 1);
        Plain.Place mean = new Plain.Place(px, told());
        holds(what + ": it is the mean of its images", plain.meanOfImages(mean).equals(mean));
    }

    private static void mean() {
        sentence(33, "MEAN of x (y: y), told by upper(), lower(): 1 (a SHAPE that is not WEIGHED: all weigh alike).");
        String[] told = {"2/a00", "4/a9-9", "2/c-99", LINE_TWICE, GASKET, TURNED, ALL_TURNS, "2/a00/c00", SIX};
        for (String moves : told) {
            anew();
            tell(0, moves);
            int m = new Plain(moves).moves.size();
            meanFits(moves, 0, new Plain(moves));
            long up = x.upper(), low = x.lower();
            for (int weight : new int[] {1, 99}) {
                fillAlike(0, m, weight);
                x.weighed(1, 0, 0);
                fraction(moves + ": all weigh alike", x.mean(1, true), up, low);
            }
        }
        anew();
        tell(0, "2/a00/c00");
        fraction("0 by 1", x.mean(0, false), 0, 1);
        tell(0, "2/a-90");
        fraction("below 0", x.mean(0, false), -9, 1);
        sentence(33, "MEAN: of all places of the SHAPE by weights (each MOVE's image gets its weight by all): fractions "
                + "(the one place that is led to itself: the weights' mean of all MOVES' images of it).");
        int[][] weights = {{1, 1, 1, 1, 1, 1}, {99, 99, 99, 99, 99, 99}, {99, 1, 1, 1, 1, 1}, {1, 2, 3, 5, 7, 11},
            {1, 99, 98, 97, 2, 1}};
        for (int[] weight : weights) {
            for (String moves : new String[] {ALL_TURNS, SIX, "2/b99/b-99/b9-9/d99/e-9-9/a01"}) {
                anew();
                tell(0, moves);
                fill(0, weight);
                x.weighed(0, 0, 0);
                meanFits(moves, 0, new Plain(moves).weighed(weight));
            }
        }
        anew();
        tell(0, "2/a00/a10");
        fill(0, 99, 1);
        x.weighed(0, 0, 0);
        fraction("nearly all at 0", x.mean(0, false), 1, 100);
        sentence(33, "BAD");
        given(() -> tell(0, GASKET));
        badOutside(0, 7, s -> x.mean(s, true));
        sentence(33, "NOTHING");
        given(() -> tell(0, GASKET));
        found(NOTHING, () -> x.mean(1, true), () -> x.mean(7, false));
        sentence(33, "UNLIKE: BARRED");
        given(() -> {
            oneOfEachKind();
            fill(0, 0, 0, 0);
            x.barred(5, 2, 0);
        });
        found(UNLIKE, () -> x.mean(4, false), () -> x.mean(4, true), () -> x.mean(5, true));
        for (int s = 0; s <= 3; s++) {
            anew();
            due("another kind", x.mean(s, true), 1);
        }
    }

    private static void weighs() {
        sentence(34, "How much the POINT (x, y) of STEP k (0 .. 5) weighs, told by many(): 1.");
        given(() -> {
            tell(0, "2/a11/a11/a11/a11/a11/a11");
            fillAlike(0, 6, 99);
            x.weighed(1, 0, 0);
        });
        long most = 1;
        int at = 0;
        for (int k = 0; k <= 5; k++) {
            tellsMany("all words on one point, step " + k, x.weighs(1, k, at, at), most);
            tellsMany("beside it, step " + k, x.weighs(1, k, at + 1, at), 0);
            most *= 594;
            at = 2 * at + 1;
        }
        for (int far : new int[] {LOW, HIGH, 1 << 13, 1 << 16, 1 << 26, -(1 << 13)}) {
            tellsMany("far off in x", x.weighs(1, 1, 1 + far, 1), 0);
            tellsMany("far off in y", x.weighs(1, 1, 1, 1 + far), 0);
        }
        sentence(34, "WEIGHED: each place of STEP k has the product of weights of its WORD's MOVES");
        int[] weights = {2, 99, 5, 1};
        String moves = "2/a10/c10/b01/h01";
        for (int k = 0; k <= 5; k++) {
            anew();
            tell(0, moves);
            fill(0, weights);
            x.weighed(0, 0, 0);
            Map<Plain.Cell, Long> step = new Plain(moves).weighed(weights).step(k);
            for (int px = -4; px <= 4; px++) {
                for (int py = -4; py <= 4; py++) {
                    tellsMany("at " + px + ", " + py, x.weighs(0, k, px, py),
                            step.getOrDefault(new Plain.Cell(px, py), 0L));
                }
            }
        }
        sentence(34, "BAD");
        given(() -> oneOfEachKind());
        badOutside(0, 7, s -> x.weighs(s, 0, 0, 0));
        badOutside(0, 5, k -> x.weighs(3, k, 0, 0));
        badOutside(0, 5, k -> x.weighs(7, k, 0, 0));
        badOutside(0, 5, k -> x.weighs(0, k, LOW, HIGH));
        sentence(34, "NOTHING");
        given(() -> oneOfEachKind());
        found(NOTHING, () -> x.weighs(5, 0, 0, 0), () -> x.weighs(7, 5, LOW, HIGH));
        sentence(34, "UNLIKE: not WEIGHED");
        given(() -> oneOfEachKind());
        found(UNLIKE, () -> x.weighs(0, 0, 0, 0), () -> x.weighs(1, 0, 0, 0), () -> x.weighs(2, 5, 0, 0),
                () -> x.weighs(4, 1, 0, 0));
    }

    private static void holesAre(String told, int... due) {
        anew();
        tell(0, told);
        for (int k = 0; k < due.length; k++) {
            due("holes of " + told + " at " + k, x.holes(0, k), due[k]);
            due("a second count of " + told + " at " + k, new Plain(told).holes(k), due[k]);
        }
    }

    private static void holes() {
        sentence(35, "HOLES of the PICTURE of STEP k (0 .. 3).");
        holesAre("2/a55", 0, 0, 0, 0);
        holesAre(GASKET, 0, 0, 1, 4);
        holesAre(SQUARE, 0, 0, 0, 0);
        holesAre("3/a10/a01/a21/a12", 0, 1, 4);
        holesAre("3/a-42/a-51/a-31/a-40", 0, 1);
        sentence(35, "DRAWN: a PICTURE of STEP k: POINTS as cells.");
        holesAre("2/a00/a00/a10/a10/a01/a01", 0, 0, 1, 4);
        holesAre("2/a00/c00", 0, 0, 0, 0);
        sentence(35, "HOLES: of the least board that holds all POINTS, with one row and column more on each side, "
                + "the parts of empty cells (that hang together by sides) less the one outside.");
        // cells that meet by corners alone shut a hole, and do not join two
        holesAre("3/a10/a01/a21/a12", 0, 1);
        holesAre(RING, 0, 1);
        holesAre("4/a10/a01/a12/a21/a30/a32", 0, 1);
        holesAre("3/a00/a20/a02/a22", 0, 0);
        holesAre("3/a00/a10/a20/a01/a21/a02", 0, 0);
        holesAre("2/a10/a01/a21/a12", 0, 1);
        // what is open to one side is no hole
        holesAre("3/a00/a10/a21/a02/a12", 0, 0);
        holesAre("3/a10/a20/a01/a12/a22", 0, 0);
        holesAre("3/a00/a01/a12/a20/a21", 0, 0);
        holesAre("3/a01/a02/a10/a21/a22", 0, 0);
        holesAre("2/a10/c11/g00/d11/a01", 0, 0, 0);
        holesAre("2/a11/b22/a31", 0, 0, 0);
        holesAre("4/a34/a43/a32", 0, 0, 0);
    }

    private static void holesRefused() {
        sentence(35, "BAD");
        given(() -> tell(0, GASKET));
        badOutside(0, 7, s -> x.holes(s, 0));
        badOutside(0, 3, k -> x.holes(0, k));
        badOutside(0, 3, k -> x.holes(7, k));
        sentence(35, "NOTHING");
        given(() -> tell(0, GASKET));
        found(NOTHING, () -> x.holes(1, 0), () -> x.holes(7, 3));
        sentence(35, "SPENT: its least board has more than 1600 cells (with the rows and columns more).");
        given(() -> {
            tell(0, CELLS_1600);
            tell(1, CELLS_1602);
            tell(2, "4/a-9-9/a99/a-99/a9-9");
        });
        due("cells", cells(CELLS_1600, 3), 1600);
        due("just 1600", x.holes(0, 3), 0);
        due("cells", cells(CELLS_1602, 2), 1602);
        spent(() -> x.holes(1, 2), () -> x.holes(2, 2), () -> x.holes(2, 3));
        sentence(35, "(SPENT last; no POINTS: 0.)");
        given(() -> {
            tell(0, "4/a-9-9/a99");
            fill(0, 3, 3);
            x.barred(1, 0, 0);
        });
        spent(() -> x.holes(0, 2), () -> x.holes(0, 3));
        bad(() -> x.holes(0, 4), () -> x.holes(8, 3));
        found(NOTHING, () -> x.holes(7, 3));
        anew();
        due("no points, step 2", x.holes(1, 2), 0);
        x.points(0, 5);
        due("no points behind far ones", x.holes(1, 3), 0);
        due("points, step 1", x.holes(1, 1), 0);
    }

    private static long cells(String told, int k) {
        Plain plain = new Plain(told);
        return (plain.wide(k) + 2) * (plain.high(k) + 2);
    }

    private static void linesAre(String told, int k) {
        Plain plain = new Plain(told);
        long leastX = plain.step(k).keySet().stream().mapToLong(Plain.Cell::x).min().getAsLong();
        long leastY = plain.step(k).keySet().stream().mapToLong(Plain.Cell::y).min().getAsLong();
        for (int y = 0; y < plain.high(k); y++) {
            long bits = 0;
            for (Plain.Cell c : plain.step(k).keySet()) {
                bits |= c.y() - leastY == y ? 1L << (c.x() - leastX) : 0;
            }
            if (y % 20 == 0) {
                anew();
                tell(0, told);
            }
            due("line " + y + " of " + told + " at " + k, x.line(0, k, y), Long.bitCount(bits));
            due("its bits", x.many(), bits);
        }
        due("no line behind the last", x.line(0, k, (int) plain.high(k)), SelfShapes.FINDING);
        due("no line behind the last: finding()", x.finding(), BEYOND);
    }

    private static void line() {
        sentence(36, "Line y (counted from the least) of the PICTURE of STEP k (0 .. 3), bits of x from the least on, "
                + "by many(): how many cells.");
        for (String told : new String[] {"2/a55", GASKET, LINE_TWICE, "2/a-3-3/a-2-1/c-1-2", RING}) {
            for (int k = 0; k <= 2; k++) {
                linesAre(told, k);
            }
        }
        linesAre(GASKET, 3);
        linesAre(WIDE_60, 3);
        anew();
        tell(0, "2/a-33/a3-3");
        due("from the least y", x.line(0, 1, 0), 1);
        due("from the least y: bits", x.many(), 64);
        due("an empty line", x.line(0, 1, 3), 0);
        due("an empty line: bits", x.many(), 0);
        due("the last line", x.line(0, 1, 6), 1);
        due("the last line: bits", x.many(), 1);
    }

    private static void lineRefused() {
        sentence(36, "BAD");
        given(() -> tell(0, GASKET));
        badOutside(0, 7, s -> x.line(s, 0, 0));
        badOutside(0, 3, k -> x.line(0, k, 0));
        badOutside(0, 3, k -> x.line(7, k, -1));
        sentence(36, "NOTHING");
        given(() -> tell(0, GASKET));
        found(NOTHING, () -> x.line(1, 0, 0), () -> x.line(7, 3, -1));
        sentence(36, "NOUGHT: no POINTS");
        given(() -> {
            tell(0, "4/a-9-9/a99");
            fill(0, 3, 3);
            x.barred(1, 0, 0);
        });
        found(NOUGHT, () -> x.line(1, 2, 0), () -> x.line(1, 3, 0), () -> x.line(1, 3, -1), () -> x.line(1, 3, HIGH));
        sentence(36, "BEYOND: y");
        given(() -> tell(0, GASKET));
        found(BEYOND, () -> x.line(0, 0, 1), () -> x.line(0, 0, -1), () -> x.line(0, 2, 4), () -> x.line(0, 3, 8),
                () -> x.line(0, 3, LOW), () -> x.line(0, 3, HIGH));
        sentence(36, "SPENT: more than 60 wide.");
        given(() -> {
            tell(0, WIDE_60);
            tell(1, WIDE_61);
            tell(2, "4/a-9-9/a99");
        });
        due("wide", new Plain(WIDE_60).wide(3), 60);
        holds("just 60 wide", x.line(0, 3, 0) > 0);
        due("wide", new Plain(WIDE_61).wide(2), 61);
        spent(() -> x.line(1, 2, 0), () -> x.line(2, 2, 0), () -> x.line(2, 3, 378));
        sentence(36, "(SPENT last.)");
        given(() -> {
            tell(0, WIDE_61);
            fill(0, 3, 3);
            x.barred(1, 0, 0);
        });
        found(BEYOND, () -> x.line(0, 2, 1), () -> x.line(0, 2, -1));
        found(NOUGHT, () -> x.line(1, 2, 0));
        found(NOTHING, () -> x.line(7, 2, 0));
        bad(() -> x.line(0, 4, 0), () -> x.line(8, 2, 0));
        spent(() -> x.line(0, 2, 0));
    }

    private static void sameIs(String what, String one, String other, int k, int by) {
        anew();
        tell(0, one);
        tell(1, other);
        due(what, x.same(0, 1, k), 1);
        due(what + ": asked()", x.asked(), by);
        due(what + ", back", x.same(1, 0, k), 1);
        due(what + ", back: asked()", x.asked(), -by);
    }

    private static void sameNot(String what, String one, String other, int k) {
        anew();
        tell(0, one);
        tell(1, other);
        due(what, x.same(0, 1, k), 0);
        due(what + ", back", x.same(1, 0, k), 0);
        due(what + ": asked() stays", x.asked(), 41);
    }

    private static void same() {
        sentence(37, "Whether two SHAPES have the same POINTS at STEP k (0 .. 4), the one moved by a shift: "
                + "1 (x of the shift by asked(): what is added to those of the first), 0.");
        int scale = 0;
        for (int k = 0; k <= 4; k++) {
            sameIs("moved, step " + k, GASKET, "2/a-3-1/a-2-1/a-30", k, -3 * scale);
            scale = 2 * scale + 1;
        }
        sameIs("in y alone", GASKET, "2/a05/a15/a06", 4, 0);
        sameIs("moves in another order", GASKET, "2/a01/a00/a10", 4, 0);
        sameIs("points, not words", "2/a00/a10/a00", "2/a30/a40", 1, 3);
        sameIs("step 0 of any two", "2/h99", SIX, 0, 0);
        sameIs("turned by turns that do not show", "2/a00/a30", "2/c00/a30", 1, 0);
        sameIs("just all of four", "2/a00/a10/a01/a11", "2/a11/a01/a10/a00", 4, 0);
        sameNot("fewer", "2/a00/a10", GASKET, 1);
        sameNot("one board, as many, not the same", "2/a00/a10/a01/a33", "2/a00/a20/a01/a33", 1);
        sameNot("mirrored", GASKET, "2/a00/a10/a11", 1);
        sameNot("another base", "2/a00/a10", "3/a00/a10", 2);
        sameNot("the greatest point alone is off", "2/a00/a10/a20/a30/a40/a50", "2/a00/a10/a20/a30/a40/a60", 1);
        sameNot("the first point alone is off", "2/a11/a00/a20/a02/a22", "2/a10/a00/a20/a02/a22", 1);
        sameNot("the last point alone is off", "2/a00/a20/a02/a22/a11", "2/a00/a20/a02/a22/a10", 1);
        anew();
        tell(0, TURNED);
        due("with itself", x.same(0, 0, 4), 1);
        due("with itself: asked()", x.asked(), 0);
    }

    private static void sameFar() {
        sentence(37, "(Without POINTS both: 1, 0.)");
        given(() -> {
            tell(0, "2/a00/a10");
            fill(0, 3, 3);
            x.barred(1, 0, 0);
            tell(2, "4/a99");
            fill(0, 1);
            x.barred(3, 2, 0);
            x.told(2, 1);
        });
        for (int k = 2; k <= 4; k++) {
            anew();
            due("one without points", x.same(1, 0, k), 0);
            due("the other without points", x.same(0, 1, k), 0);
            due("asked() stays", x.asked(), 4);
            due("both without points", x.same(1, 3, k), 1);
            due("both without points: asked()", x.asked(), 0);
        }
        anew();
        due("with points still", x.same(1, 0, 1), 1);
        given(() -> { });
        sameIs("the farthest", "4/a-9-9", "4/a99", 4, 1530);
        sameIs("the most points", SIX, "4/a11/a01/a10/a20/a30/a00", 4, 0);
        sameNot("the most points, not the same", SIX, "4/a00/a10/a20/a30/a01/a31", 4);
        sameIs("the farthest of two", "4/a-9-9/a0-9", "4/a09/a99", 4, 765);
        sameNot("far and not the same", "4/a-9-9/a-99/a0-9", "4/a9-9/a99/a90", 4);
    }

    private static void sameRefused() {
        sentence(37, "BAD");
        given(() -> tell(0, GASKET));
        badOutside(0, 7, s -> x.same(s, 0, 0));
        badOutside(0, 7, t -> x.same(0, t, 0));
        badOutside(0, 4, k -> x.same(0, 0, k));
        badOutside(0, 4, k -> x.same(7, 6, k));
        sentence(37, "NOTHING: either");
        given(() -> tell(0, GASKET));
        found(NOTHING, () -> x.same(1, 0, 0), () -> x.same(0, 1, 0), () -> x.same(1, 1, 4));
    }
}
