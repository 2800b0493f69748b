import java.util.ArrayList;
import java.util.Arrays;
import java.util.Collections;
import java.util.List;
import java.util.Map;

/** Promises 18 to 24: words, their points and places, and the points of a step. */
final class WordSentences extends Sentences {
    private static final String ALL_TURNS = "4/h-9-9/g99/f-99/e9-9/d-19/c0-7";

    static void all() {
        point();
        turns();
        pointRefused();
        place();
        fractions();
        placeRefused();
        words();
        points();
        pointsRefused();
        at();
        board();
        broken();
    }

    private static void pointIs(String what, int s, int r, int k, int px, int py) {
        asks(what + ", x", x.point(s, r, k, false), px);
        asks(what + ", y", x.point(s, r, k, true), py);
    }

    private static List<Integer> list(int[] numbers, int from, int n) {
        List<Integer> list = new ArrayList<>();
        for (int i = from; i < from + n; i++) {
            list.add(numbers[i]);
        }
        return list;
    }

    private static void point() {
        sentence(18, "POINT of a WORD told by a ROW (its first k numbers, k 0 .. 8), x (y: y) told by asked(): 1.");
        int[] word = {5, 0, 4, 1, 3, 2, 2, 5};
        tell(0, ALL_TURNS);
        fill(0, word);
        for (int k = 0; k <= 8; k++) {
            Plain.Cell p = new Plain(ALL_TURNS).pointOf(list(word, 0, k));
            pointIs("k " + k, 0, 0, k, (int) p.x(), (int) p.y());
        }
        rowIs("the row stays", 0, word);
        given(() -> {
            tell(0, "4/a9-9/a-99");
            fillAlike(0, 8, 0);
            fillAlike(1, 40, 1);
            fill(2, 0, -1, 2);
        });
        pointIs("the farthest", 0, 0, 8, 196605, -196605);
        pointIs("of a full row", 0, 1, 8, -196605, 196605);
        pointIs("numbers behind the word do not matter", 0, 2, 1, 9, -9);
        sentence(18, "(The empty WORD: (0, 0).)");
        given(() -> {
            tell(0, "2/c55");
            x.row(0, 0);
            fill(1, 99);
            fill(2, 0);
        });
        pointIs("of an empty row", 0, 0, 0, 0, 0);
        pointIs("of a row of no moves", 0, 1, 0, 0, 0);
        pointIs("of a row of moves", 0, 2, 0, 0, 0);
        sentence(18, "WORDS are rows of numbers of MOVES, the first one outermost.");
        tell(0, GASKET);
        fill(0, 1, 2);
        pointIs("1 2", 0, 0, 2, 2, 1);
        fill(0, 2, 1);
        pointIs("2 1", 0, 0, 2, 1, 2);
        fill(0, 1, 1, 2, 2, 0, 0, 0, 1);
        pointIs("the last one weighs least", 0, 0, 8, 128 + 64 + 1, 32 + 16);
        sentence(18, "POINT of a WORD of k: where the MOVES behind one another, the last first, lead (0, 0), "
                + "times b to the power of k: whole numbers.");
        tell(0, TURNED);
        fill(0, 1, 1);
        // (0, 0) to (1/2, 0), that to (1/2, 1/4); times 4
        pointIs("1 1", 0, 0, 2, 2, 1);
        fill(0, 1, 0);
        // (0, 0) to (0, 0), that to (1/2, 0); times 4
        pointIs("1 0", 0, 0, 2, 2, 0);
    }

    private static void turns() {
        sentence(18, "TURN t leads (x, y) to: 0 (x, y), 1 (-y, x), 2 (-x, -y), 3 (y, -x), 4 (y, x), 5 (-x, y), "
                + "6 (-y, -x), 7 (x, -y).");
        fill(0, 0, 1);
        int[][] images = {{3, 5}, {-5, 3}, {-3, -5}, {5, -3}, {5, 3}, {-3, 5}, {-5, -3}, {3, -5}};
        for (int t = 0; t <= 7; t++) {
            tell(0, "2/" + "abcdefgh".charAt(t) + "00/a35");
            pointIs("turn " + t, 0, 0, 2, images[t][0], images[t][1]);
        }
        sentence(18, "MOVE i leads a place p to (TURN of p and SHIFT) by b.");
        fill(0, 0, 1);
        for (int base = 2; base <= 4; base++) {
            tell(0, base + "/b12/a35");
            pointIs("the shift is not turned, base " + base, 0, 0, 2, base - 5, 2 * base + 3);
        }
    }

    private static void pointRefused() {
        sentence(18, "BAD");
        given(() -> {
            tell(0, GASKET);
            x.row(0, 40);
        });
        badOutside(0, 7, s -> x.point(s, 0, 0, false));
        badOutside(0, 5, r -> x.point(0, r, 0, true));
        badOutside(0, 8, k -> x.point(0, 0, k, true));
        badOutside(0, 8, k -> x.point(7, 5, k, false));
        sentence(18, "NOTHING: either");
        given(() -> {
            tell(0, GASKET);
            fill(0, 99);
        });
        found(NOTHING, () -> x.point(1, 0, 1, true), () -> x.point(0, 1, 0, true), () -> x.point(1, 1, 8, false));
        sentence(18, "SIZE: fewer");
        given(() -> {
            tell(0, GASKET);
            x.row(0, 7);
            x.row(1, 0);
            fill(2, 99);
        });
        found(SIZE, () -> x.point(0, 0, 8, true), () -> x.point(0, 1, 1, true), () -> x.point(0, 2, 2, true));
        anew();
        pointIs("just as many", 0, 0, 7, 0, 0);
        sentence(18, "UNLIKE: a number that is no MOVE");
        for (int number : new int[] {3, -1, 6, LOW, HIGH}) {
            for (int place : new int[] {0, 7}) {
                given(() -> {
                    tell(0, GASKET);
                    x.row(0, 9);
                    x.lay(0, place, number);
                });
                found(UNLIKE, () -> x.point(0, 0, 8, false), () -> x.point(0, 0, place + 1, true));
                anew();
                due("behind the word", x.point(0, 0, place, true), 1);
            }
        }
    }

    private static Plain.Place placeTold(int r, int k, int n) {
        due("place of x", x.place(0, r, k, n, false), 1);
        holds("the lower number is above 0", x.lower() > 0);
        Plain.Fraction px = Plain.Fraction.of(x.upper(), x.lower());
        due("in lowest terms, x", px.low().longValueExact(), x.lower());
        due("place of y", x.place(0, r, k, n, true), 1);
        holds("the lower number is above 0", x.lower() > 0);
        Plain.Fraction py = Plain.Fraction.of(x.upper(), x.lower());
        due("in lowest terms, y", py.low().longValueExact(), x.lower());
        return new Plain.Place(px, py);
    }

    /** The round alone names a place that it leads to itself; the word leads that one on. */
    private static void placeFits(String told, int k, int n, int... numbers) {
        anew();
        tell(0, told);
        fill(0, numbers);
        fill(1, Arrays.copyOfRange(numbers, k, k + n));
        Plain plain = new Plain(told);
        Plain.Place itself = placeTold(1, 0, n);
        holds("a round leads its place to itself", plain.leadByWord(list(numbers, k, n), itself).equals(itself));
        Plain.Place due = plain.leadByWord(list(numbers, 0, k), itself);
        holds("the word leads it on", placeTold(0, k, n).equals(due));
    }

    private static void place() {
        sentence(19, "PLACE of a ROW's first k numbers (0 .. 6) and the next n (1 .. 6) as a ROUND, x (y: y), "
                + "told by upper(), lower(): 1.");
        int[] numbers = {5, 0, 4, 1, 3, 2, 2, 5, 1, 0, 4, 3, 99};
        for (int k = 0; k <= 6; k++) {
            for (int n = 1; n <= 6; n++) {
                placeFits(ALL_TURNS, k, n, numbers);
            }
        }
        placeFits(ALL_TURNS, 6, 6, Arrays.copyOf(numbers, 12));
        for (int i = 0; i < 6; i++) {
            int[] alike = new int[12];
            Arrays.fill(alike, i);
            placeFits(ALL_TURNS, 6, 6, alike);
        }
        sentence(19, "PLACE of a WORD and a ROUND (a WORD that comes again and again behind it, not empty): "
                + "the place in the SHAPE that these name: fractions.");
        given(() -> {
            tell(0, GASKET);
            fill(0, 1, 2, 0);
        });
        fraction("1 again and again, x", x.place(0, 0, 0, 1, false), 1, 1);
        fraction("1 again and again, y", x.place(0, 0, 0, 1, true), 0, 1);
        fraction("1, then 2 again and again, x", x.place(0, 0, 1, 1, false), 1, 2);
        fraction("1, then 2 again and again, y", x.place(0, 0, 1, 1, true), 1, 2);
        fraction("1 2 again and again, x", x.place(0, 0, 0, 2, false), 2, 3);
        fraction("1 2 again and again, y", x.place(0, 0, 0, 2, true), 1, 3);
        due("it is in the shape", x.in(0, 2, 1, 3), 1);
        fraction("1 2, then 0 again and again, y", x.place(0, 0, 2, 1, true), 1, 4);
        bad(() -> x.place(0, 0, 1, 0, true));
    }

    private static void fractions() {
        sentence(19, "Fractions are told by upper() and lower(), in lowest terms, the lower number above 0 (0 by 1).");
        given(() -> {
            tell(0, "3/a00/a20/a-20/a60/a-10");
            fillAlike(1, 12, 0);
            fillAlike(2, 12, 1);
            fillAlike(3, 12, 2);
            fillAlike(4, 12, 3);
            fillAlike(5, 12, 4);
        });
        fraction("0 by 1", x.place(0, 1, 6, 6, false), 0, 1);
        fraction("1 by 1", x.place(0, 2, 6, 6, false), 1, 1);
        fraction("-1 by 1", x.place(0, 3, 6, 6, false), -1, 1);
        fraction("3 by 1", x.place(0, 4, 6, 6, false), 3, 1);
        fraction("-1 by 2", x.place(0, 5, 6, 6, false), -1, 2);
        fraction("0 by 1 behind another", x.place(0, 5, 6, 6, true), 0, 1);
    }

    private static void placeRefused() {
        sentence(19, "BAD");
        given(() -> {
            tell(0, GASKET);
            x.row(0, 40);
        });
        badOutside(0, 7, s -> x.place(s, 0, 0, 1, false));
        badOutside(0, 5, r -> x.place(0, r, 0, 1, true));
        badOutside(0, 6, k -> x.place(0, 0, k, 1, true));
        badOutside(1, 6, n -> x.place(0, 0, 0, n, true));
        badOutside(1, 6, n -> x.place(7, 5, 6, n, true));
        bad(() -> x.place(0, 0, HIGH, HIGH, true), () -> x.place(0, 0, -1, 2, true), () -> x.place(0, 0, LOW, LOW, true),
                () -> x.place(0, 0, 7, 0, true));
        sentence(19, "NOTHING");
        given(() -> {
            tell(0, GASKET);
            fill(0, 99);
        });
        found(NOTHING, () -> x.place(1, 0, 0, 1, true), () -> x.place(0, 1, 0, 1, true),
                () -> x.place(1, 1, 6, 6, false));
        sentence(19, "SIZE");
        given(() -> {
            tell(0, GASKET);
            x.row(0, 11);
            x.row(1, 0);
            fill(2, 99);
        });
        found(SIZE, () -> x.place(0, 0, 6, 6, true), () -> x.place(0, 1, 0, 1, true), () -> x.place(0, 2, 1, 1, true),
                () -> x.place(0, 2, 0, 2, true));
        anew();
        due("just as many", x.place(0, 0, 6, 5, true), 1);
        due("just as many", x.place(0, 0, 5, 6, true), 1);
        sentence(19, "UNLIKE");
        for (int number : new int[] {3, -1, 6, LOW, HIGH}) {
            for (int place : new int[] {0, 5, 6, 11}) {
                given(() -> {
                    tell(0, GASKET);
                    x.row(0, 13);
                    x.lay(0, place, number);
                });
                found(UNLIKE, () -> x.place(0, 0, 6, 6, false));
                anew();
                due("behind word and round", x.place(0, 0, 0, Math.max(1, Math.min(6, place)), true),
                        place == 0 ? SelfShapes.FINDING : 1);
            }
        }
    }

    private static void words() {
        sentence(20, "How many WORDS STEP k (0 .. 6) has (of a BARRED one those allowed), told by many(): 1.");
        given(() -> {
            tell(0, "3/c00/b00/b00/b00/b00/b00");
            tell(1, "2/a11");
            tell(2, "2/a00/a10");
            fill(0, 0, 2);
            x.barred(2, 2, 0);
        });
        long six = 1;
        long[] noneTwice = {1, 2, 3, 5, 8, 13, 21};
        for (int k = 0; k <= 6; k++) {
            tellsMany("six moves, step " + k, x.words(0, k), six);
            tellsMany("one move, step " + k, x.words(1, k), 1);
            tellsMany("no 1 behind 1, step " + k, x.words(2, k), noneTwice[k]);
            six *= 6;
        }
        sentence(20, "STEP k: all WORDS of k (of a BARRED one those in which no barred pair comes, first and next).");
        int[][] sets = {{63, 63, 63, 63, 63, 63}, {1, 2, 4, 8, 16, 32}, {0, 0, 0, 0, 0, 0}, {32, 16, 8, 4, 2, 1},
            {62, 61, 59, 55, 47, 31}, {2, 4, 8, 16, 32, 63}};
        for (int[] set : sets) {
            anew();
            tell(0, SIX);
            fill(0, set);
            x.barred(1, 0, 0);
            Plain plain = new Plain(SIX).barred(set);
            for (int k = 0; k <= 6; k++) {
                tellsMany("step " + k, x.words(1, k), plain.words(k).size());
            }
        }
        sentence(20, "BAD");
        given(() -> tell(0, GASKET));
        badOutside(0, 7, s -> x.words(s, 0));
        badOutside(0, 6, k -> x.words(0, k));
        badOutside(0, 6, k -> x.words(7, k));
        sentence(20, "NOTHING");
        given(() -> tell(0, GASKET));
        found(NOTHING, () -> x.words(1, 0), () -> x.words(7, 6));
    }

    private static void pointsAre(String told, int k) {
        Map<Plain.Cell, Long> step = new Plain(told).step(k);
        due("points of " + told + " at " + k, x.points(0, k), step.size());
        due("the most words", x.asked(), Collections.max(step.values()));
    }

    private static void points() {
        sentence(21, "How many unlike POINTS STEP k (0 .. 5) has; "
                + "how many WORDS lead to the one with the most by asked().");
        String[] told = {"2/a11", "2/a11/a11/a11/a11/a11/a11", LINE_TWICE, SIX, ALL_TURNS,
            "4/a-9-9/a99/a-99/a9-9/a00/a01", "2/a00/b00/c00/d00/e00/h00", "2/a10/c10/a01/c01/b11/d11"};
        for (String moves : told) {
            anew();
            tell(0, moves);
            for (int k = 0; k <= 5; k++) {
                pointsAre(moves, k);
            }
        }
        tell(0, "2/a11/a11/a11/a11/a11/a11");
        due("all words to one point", x.points(0, 5), 1);
        due("all words to one point: asked()", x.asked(), 7776);
        tell(0, SIX);
        due("each word to its own", x.points(0, 5), 7776);
        due("each word to its own: asked()", x.asked(), 1);
        sentence(21, "(A BARRED one: by its own WORDS; none: 0, 0.)");
        given(() -> {
            tell(0, "2/a11/a11");
            fill(0, 3, 3);
            x.barred(1, 0, 0);
            fill(0, 1, 2);
            x.barred(2, 0, 0);
        });
        due("the empty word", x.points(1, 0), 1);
        due("the empty word: asked()", x.asked(), 1);
        due("words of 1", x.points(1, 1), 1);
        due("words of 1: asked()", x.asked(), 2);
        for (int k = 2; k <= 5; k++) {
            due("none", x.points(1, k), 0);
            due("none: asked()", x.asked(), 0);
            due("in turn", x.points(2, k), 1);
            due("in turn: asked()", x.asked(), 2);
        }
    }

    private static void pointsRefused() {
        sentence(21, "BAD");
        given(() -> tell(0, GASKET));
        badOutside(0, 7, s -> x.points(s, 0));
        badOutside(0, 5, k -> x.points(0, k));
        badOutside(0, 5, k -> x.points(7, k));
        sentence(21, "NOTHING");
        given(() -> tell(0, GASKET));
        found(NOTHING, () -> x.points(1, 0), () -> x.points(7, 5));
    }

    private static void at() {
        sentence(22, "How many WORDS of STEP k (0 .. 5) lead to the POINT (x, y).");
        for (int k = 0; k <= 5; k++) {
            for (String told : new String[] {LINE_TWICE, "2/a10/c10/a01/c01"}) {
                anew();
                tell(0, told);
                Map<Plain.Cell, Long> step = new Plain(told).step(k);
                for (int px = -3; px <= 3; px++) {
                    for (int py = -3; py <= 3; py++) {
                        due("at " + px + ", " + py, x.at(0, k, px, py),
                                step.getOrDefault(new Plain.Cell(px, py), 0L));
                    }
                }
            }
        }
        given(() -> {
            tell(0, "4/a-9-9/a99");
            fill(0, 3, 3);
            x.barred(1, 0, 0);
        });
        due("the least corner", x.at(0, 5, -3069, -3069), 1);
        due("the greatest corner", x.at(0, 5, 3069, 3069), 1);
        due("beside it", x.at(0, 5, 3070, 3069), 0);
        due("a barred word", x.at(1, 2, 45, 45), 0);
        for (int far : new int[] {LOW, HIGH, LOW + 1, 1 << 13, -(1 << 13), 1 << 16, 1 << 26, 1 << 30, 4096, -4096}) {
            due("far off in x", x.at(0, 0, far, 0), 0);
            due("far off in y", x.at(0, 0, 0, far), 0);
            due("far off in both", x.at(0, 5, far, far), 0);
            due("around in y", x.at(0, 1, 9, 9 + far), 0);
            due("around in x", x.at(0, 1, 9 + far, 9), 0);
        }
        due("asked() stays", x.asked(), 0);
        sentence(22, "BAD");
        given(() -> tell(0, GASKET));
        badOutside(0, 7, s -> x.at(s, 0, 0, 0));
        badOutside(0, 5, k -> x.at(0, k, 0, 0));
        badOutside(0, 5, k -> x.at(7, k, LOW, HIGH));
        sentence(22, "NOTHING");
        given(() -> tell(0, GASKET));
        found(NOTHING, () -> x.at(1, 0, 0, 0), () -> x.at(7, 5, LOW, HIGH));
    }

    private static void boardIs(int s, int k, int leastX, int greatestX, int leastY, int greatestY) {
        asks("least x", x.board(s, k, 0), leastX);
        asks("greatest x", x.board(s, k, 1), greatestX);
        asks("least y", x.board(s, k, 2), leastY);
        asks("greatest y", x.board(s, k, 3), greatestY);
    }

    private static void board() {
        sentence(23, "The least board that holds all POINTS of STEP k (0 .. 5): what = 0 least x, 1 greatest x, "
                + "2 least y, 3 greatest y, told by asked(): 1.");
        given(() -> {
            tell(0, "4/a-9-7/a98");
            tell(1, "2/a-3-5/a-4-2");
            fill(0, 3, 3);
            x.barred(2, 1, 0);
        });
        int scale = 0;
        for (int k = 0; k <= 5; k++) {
            boardIs(0, k, -9 * scale, 9 * scale, -7 * scale, 8 * scale);
            scale = 4 * scale + 1;
        }
        boardIs(1, 1, -4, -3, -5, -2);
        boardIs(1, 5, -124, -93, -155, -62);
        boardIs(2, 0, 0, 0, 0, 0);
        boardIs(2, 1, -4, -3, -5, -2);
        sentence(23, "BAD");
        given(() -> tell(0, GASKET));
        badOutside(0, 7, s -> x.board(s, 0, 0));
        badOutside(0, 5, k -> x.board(0, k, 0));
        badOutside(0, 3, what -> x.board(0, 0, what));
        badOutside(0, 3, what -> x.board(7, 0, what));
        sentence(23, "NOTHING");
        given(() -> tell(0, GASKET));
        found(NOTHING, () -> x.board(1, 0, 0), () -> x.board(7, 5, 3));
        sentence(23, "NOUGHT: no POINTS");
        given(() -> {
            tell(0, "2/a-3-5/a-4-2");
            fill(0, 3, 3);
            x.barred(2, 0, 0);
        });
        for (int what = 0; what <= 3; what++) {
            int asked = what;
            found(NOUGHT, () -> x.board(2, 2, asked), () -> x.board(2, 5, asked));
        }
    }

    private static int firstBroken(Plain plain) {
        int claimed = 1;
        for (int k = 1; k <= 5; k++) {
            claimed *= plain.moves.size();
            if (plain.step(k).size() != claimed) {
                return k;
            }
        }
        return SelfShapes.NONE;
    }

    private static void brokenAt(String told, int due) {
        anew();
        tell(0, told);
        due("broken, " + told, x.broken(0), due);
        due("a second count, " + told, firstBroken(new Plain(told)), due);
    }

    private static void broken() {
        sentence(24, "The first k (1 .. 5) at which STEP k has not m to the power of k unlike POINTS");
        brokenAt("2/a02/a02", 1);
        brokenAt("2/a12/a10/a11", 2);
        brokenAt("2/a49/a48/a44", 3);
        brokenAt("2/a15/a18/a10", 4);
        brokenAt("2/a09/a01/a0-8", 5);
        brokenAt("2/a11/a11/a11/a11/a11/a11", 1);
        brokenAt("2/a00/c00", 1);
        brokenAt("2/a10/c10/a01/c01", 1);
        brokenAt("2/b00/a10", SelfShapes.NONE);
        sentence(24, "NONE: none");
        brokenAt("2/a33/a70/a57/a83", SelfShapes.NONE);
        brokenAt("3/a5-2/a-66/a1-6/a87", SelfShapes.NONE);
        brokenAt("2/a00", SelfShapes.NONE);
        brokenAt("4/g9-9", SelfShapes.NONE);
        brokenAt(SIX, SelfShapes.NONE);
        sentence(24, "BROKEN is a claim that STEP k has m to the power of k unlike POINTS: the first k (1 .. 5) "
                + "at which it has not (of a BARRED one likewise m to the power of k).");
        brokenWhenBarred("2/a00/a10", SelfShapes.NONE, 0, 0);
        brokenWhenBarred("2/a00/a10", 2, 1, 0);
        brokenWhenBarred("2/a00/a10", 2, 3, 3);
        brokenWhenBarred("2/a00/a00", 1, 0, 0);
        brokenWhenBarred("2/a00", SelfShapes.NONE, 0);
        brokenWhenBarred("2/a00", 2, 1);
        brokenWhenBarred(SIX, 2, 0, 0, 0, 0, 0, 32);
        sentence(24, "BAD");
        given(() -> tell(0, GASKET));
        badOutside(0, 7, s -> x.broken(s));
        sentence(24, "NOTHING");
        given(() -> tell(0, GASKET));
        found(NOTHING, () -> x.broken(1), () -> x.broken(7));
    }

    private static void brokenWhenBarred(String told, int due, int... sets) {
        anew();
        tell(0, told);
        fill(0, sets);
        x.barred(1, 0, 0);
        due("broken, " + told + " barred by " + Arrays.toString(sets), x.broken(1), due);
        due("a second count, " + told, firstBroken(new Plain(told).barred(sets)), due);
    }
}
