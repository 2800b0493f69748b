import java.util.Map;
import java.util.Set;
import java.util.function.IntUnaryOperator;

/** Promises 25 to 32: which pieces meet, how they hang together, and whether a place is in. */
final class NeighbourSentences extends Sentences {
    private static final String FAR = "2/a-9-9/a99/a-99/a9-9";
    private static final String CROSS = "3/a10/a01/a11/a21/a12";
    private static final String DUST = "4/a00/a30/a03/a33";
    private static final String PLACES_2000 = "2/a76/a-6-6/a-9-9/a-1-6/a82/a-77";
    private static final String PLACES_2001 = "2/a29/a-8-8/a3-7/a05/a-96";

    static void all() {
        alive();
        meets();
        vectors();
        beside();
        hangs();
        nets();
        cuts();
        in();
        inItself();
        inRefused();
        rim();
        notAskedOfOthers();
    }

    /** BAD, NOTHING and UNLIKE of a call that asks a straight shape alone. */
    private static void refusedAlike(int promise, String unlike, IntUnaryOperator call) {
        sentence(promise, "BAD");
        given(() -> tell(0, GASKET));
        badOutside(0, 7, call);
        sentence(promise, "NOTHING");
        given(() -> {
            tell(0, GASKET);
            x.drop(0);
        });
        found(NOTHING, () -> call.applyAsInt(0), () -> call.applyAsInt(7));
        sentence(promise, unlike);
        given(() -> oneOfEachKind());
        found(UNLIKE, () -> call.applyAsInt(0), () -> call.applyAsInt(3), () -> call.applyAsInt(4));
        for (int s = 1; s <= 2; s++) {
            anew();
            holds("a straight one is asked", call.applyAsInt(s) >= 0);
        }
    }

    /** A shape, and another one that is told and asked later, so that nothing of it may stay behind. */
    private static void tellAmong(String told) {
        anew();
        tell(0, told);
        tell(1, CROSS);
        x.rings(1, 2);
        x.in(1, 1, 1, 2);
    }

    private static void alive() {
        sentence(25, "How many VECTORS are ALIVE ((0, 0), too).");
        String[] told = {"2/a00", "4/a99", "2/a00/a00", GASKET, SQUARE, CROSS, DUST, LINE_TWICE, FAR, SIX,
            "3/a-9-9/a99/a-99/a9-9", "4/a-9-9/a99/a-99/a9-9", "2/a-9-9/a99/a-99/a9-9/a00/a01", PLACES_2000};
        for (String moves : told) {
            tellAmong(moves);
            due("alive of " + moves, x.alive(0), new Plain(moves).alive().size());
        }
        anew();
        tell(0, "2/a55");
        due("(0, 0) alone", x.alive(0), 1);
        tell(0, SQUARE);
        due("of a square", x.alive(0), 9);
        refusedAlike(25, "UNLIKE: not STRAIGHT", s -> x.alive(s));
    }

    private static void meets() {
        sentence(26, "Whether a VECTOR is ALIVE: 1, 0.");
        for (String told : new String[] {GASKET, LINE_TWICE, "3/a00/a20/a02", "4/a-90/a9-9/a3-2"}) {
            Set<Plain.Cell> alive = new Plain(told).alive();
            for (int vx = -8; vx <= 8; vx++) {
                tellAmong(told);
                for (int vy = -8; vy <= 8; vy++) {
                    due("meets " + vx + ", " + vy, x.meets(0, vx, vy), alive.contains(new Plain.Cell(vx, vy)) ? 1 : 0);
                }
            }
        }
        refusedAlike(26, "UNLIKE", s -> x.meets(s, 0, 0));
    }

    private static void vectors() {
        sentence(26, "For STRAIGHT SHAPES: the PIECES of two WORDS of k differ by a VECTOR: "
                + "the POINT of the second less that of the first.");
        tell(0, GASKET);
        // of words 1 1 and 2 0 the points are (3, 0), (0, 2); of 1 2 and 2 1 they are (2, 1), (1, 2)
        due("1 1 and 2 0", x.meets(0, -3, 2), 0);
        due("1 2 and 2 1", x.meets(0, -1, 1), 1);
        due("2 1 and 1 2", x.meets(0, 1, -1), 1);
        due("one piece twice", x.meets(0, 0, 0), 1);
        sentence(26, "VECTORS V with each size of x and of y at most R (the greatest size of a difference of two "
                + "SHIFTS, in x or y, by (b less 1), cut): from V one comes to b V and (SHIFT j less SHIFT i) "
                + "for all i, j.");
        tell(0, "2/a-90/a90");
        due("as far as R", x.meets(0, 18, 0), 1);
        due("as far as R, below", x.meets(0, -18, 0), 1);
        due("beyond R", x.meets(0, 19, 0), 0);
        due("beyond R, below", x.meets(0, -19, 0), 0);
        due("off its line", x.meets(0, 0, 1), 0);
        tell(0, "3/a00/a20");
        due("R cut to 1", x.meets(0, 1, 0), 1);
        due("behind R cut to 1", x.meets(0, 2, 0), 0);
        tell(0, "3/a00/a10");
        due("R cut to 0", x.meets(0, 0, 0), 1);
        due("behind R cut to 0", x.meets(0, 1, 0), 0);
        tell(0, FAR);
        due("a corner of the widest bounds", x.meets(0, -18, 18), 1);
        due("the other corner of the widest bounds", x.meets(0, 18, -18), 1);
        for (int far : new int[] {19, -19, LOW, HIGH, LOW + 18, HIGH - 18, 1 << 16, 37}) {
            due("out of bounds in x", x.meets(0, far, 0), 0);
            due("out of bounds in y", x.meets(0, 0, far), 0);
            due("out of bounds in both", x.meets(0, far, -far), 0);
        }
        sentence(26, "ALIVE are those V from which one can go on so for ever without leaving these bounds: "
                + "two PIECES that differ by V meet, just if V is ALIVE.");
        tell(0, SQUARE);
        due("squares with one corner", x.meets(0, 1, 1), 1);
        due("squares with one side", x.meets(0, 1, 0), 1);
        due("squares that stand apart", x.meets(0, 2, 0), 0);
        tell(0, DUST);
        due("the corners of dust", x.meets(0, 1, 1), 1);
        tell(0, GASKET);
        due("corners that a gasket has not", x.meets(0, 1, 1), 0);
        due("corners that a gasket has", x.meets(0, 1, -1), 1);
    }

    private static void besideAre(String told, int... due) {
        tellAmong(told);
        for (int i = 0; i < due.length; i++) {
            due("beside " + i + " of " + told, x.beside(0, i), due[i]);
        }
    }

    private static void beside() {
        sentence(27, "MOVES that MEET MOVE i (bits).");
        besideAre("2/a55", 0);
        besideAre(CROSS, 4, 4, 27, 4, 4);
        besideAre(DUST, 0, 0, 0, 0);
        besideAre("3/a00/a10/a20/a02/a12/a22", 2, 5, 2, 16, 40, 16);
        besideAre("4/a30/a00/a20/a10", 4, 8, 9, 6);
        sentence(27, "MEET: MOVES i and j (unlike), if their SHIFTS' difference is ALIVE.");
        besideAre("2/a00/a00", 2, 1);
        besideAre("4/a11/a11/a11/a11/a11/a11", 62, 61, 59, 55, 47, 31);
        besideAre("3/a00/a20", 0, 0);
        besideAre("2/a00/a10/a99/a99", 14, 13, 11, 7);
        refusedAlike(27, "UNLIKE", s -> x.beside(s, 0));
        given(() -> oneOfEachKind());
        found(UNLIKE, () -> x.beside(0, 9), () -> x.beside(3, -1), () -> x.beside(4, HIGH));
        found(NOTHING, () -> x.beside(7, 9));
        bad(() -> x.beside(8, 9));
        sentence(27, "BEYOND");
        given(() -> {
            tell(0, SIX);
            tell(0, GASKET);
            tell(1, SIX);
        });
        found(BEYOND, () -> x.beside(0, 3), () -> x.beside(0, -1), () -> x.beside(0, LOW), () -> x.beside(0, HIGH),
                () -> x.beside(0, 5), () -> x.beside(1, 6));
    }

    private static void hangsIs(String told, int due) {
        tellAmong(told);
        due("hangs of " + told, x.hangs(0), due);
    }

    private static void hangs() {
        sentence(28, "Whether a SHAPE HANGS TOGETHER: 1, 0.");
        hangsIs("2/a00", 1);
        hangsIs("4/a9-9", 1);
        hangsIs(GASKET, 1);
        hangsIs(DUST, 0);
        hangsIs("4/a00/a00/a00/a00/a00/a00", 1);
        sentence(28, "The SHAPE HANGS TOGETHER, if all MOVES hang together by MEETING.");
        hangsIs("4/a00/a10/a20/a30", 1);
        hangsIs("4/a30/a00/a20/a10", 1);
        hangsIs("3/a00/a10/a20/a21/a22/a12", 1);
        // no two rows of moves are there that differ by 3, so nothing above meets what is below
        hangsIs("4/a00/a30/a01/a31/a10/a20", 0);
        hangsIs("4/a00/a10/a30", 0);
        hangsIs("4/a30/a10/a00", 0);
        hangsIs("3/a00/a10/a20/a02/a12/a22", 0);
        hangsIs("3/a00/a20", 0);
        refusedAlike(28, "UNLIKE", s -> x.hangs(s));
    }

    private static void netIs(String told, int k) {
        Map<Plain.Cell, Set<Plain.Cell>> net = new Plain(told).net(k);
        tellAmong(told);
        due("net of " + told + " at " + k, x.net(0, k), Plain.joints(net));
        due("its parts", x.many(), Plain.parts(net, null));
        x.net(1, 2);
        due("rings of " + told + " at " + k, x.rings(0, k), Plain.joints(net) - net.size() + Plain.parts(net, null));
        due("its cuts", x.many(), Plain.cuts(net));
    }

    private static void netsOf(String... told) {
        for (String moves : told) {
            for (int k = 0; k <= 3; k++) {
                netIs(moves, k);
            }
        }
    }

    private static void netIs(String told, int k, int joints, int parts, int rings, int cuts) {
        tellAmong(told);
        due("net of " + told + " at " + k, x.net(0, k), joints);
        due("its parts", x.many(), parts);
        x.net(1, 2);
        due("rings of " + told + " at " + k, x.rings(0, k), rings);
        due("its cuts", x.many(), cuts);
    }

    private static void nets() {
        sentence(29, "NET of STEP k (0 .. 3): joints; many() tells its parts.");
        netsOf("2/a55", GASKET, SQUARE, CROSS, DUST, LINE_TWICE, SIX);
        netIs("2/a55", 3, 0, 1, 0, 0);
        netIs(GASKET, 0, 0, 1, 0, 0);
        sentence(29, "NET of STEP k: unlike POINTS, joined if their difference is ALIVE: how many joints; "
                + "how many parts it has");
        netIs("2/a11/a11/a11/a11/a11/a11", 3, 0, 1, 0, 0);
        netIs(LINE_TWICE, 1, 3, 1, 1, 0);
        netIs(DUST, 3, 0, 64, 0, 0);
        netIs("3/a00/a10/a20/a02/a12/a22", 1, 4, 2, 0, 2);
        // each of 36 points in a row is joined with the five on both sides
        netIs("2/a00/a10/a20/a30/a40/a50", 3, 36 * 5 - 15, 1, 36 * 5 - 15 - 36 + 1, 0);
        netsOf("4/a-9-9/a99/a-99/a9-9/a00/a01", PLACES_2000);
        sentence(30, "RINGS of that NET; many() tells its CUTS.");
        netIs("3/a11/a01/a22/a02/a10/a00", 1, 7, 1, 2, 2);
        netIs("3/a21/a00/a20/a02/a22/a11", 1, 7, 1, 2, 1);
        netIs("2/a00/a10", 3, 7, 1, 0, 6);
        sentence(30, "RINGS: joints less POINTS and parts");
        netIs("2/a00/a10", 1, 1, 1, 0, 0);
        netIs(SQUARE, 1, 6, 1, 3, 0);
        netIs(DUST, 1, 0, 4, 0, 0);
        netIs(SIX, 0, 0, 1, 0, 0);
    }

    private static void cuts() {
        sentence(30, "CUTS: POINTS without which it has more parts.");
        netIs("3/a00/a10/a20", 1, 2, 1, 0, 1);
        netIs("3/a10/a00/a20", 1, 2, 1, 0, 1);
        netIs("3/a00/a20/a10", 1, 2, 1, 0, 1);
        netIs("2/a00", 1, 0, 1, 0, 0);
        netsOf("3/a10/a00/a20/a02/a22/a11", "4/a00/a10/a20/a30/a33/a22", "4/a10/a00/a01/a02/a13/a22",
                "3/a00/a11/a22/a20/a02");
        sentence(29, "BAD");
        given(() -> tell(0, GASKET));
        badOutside(0, 3, k -> x.net(0, k));
        badOutside(0, 3, k -> x.net(7, k));
        refusedAlike(29, "UNLIKE", s -> x.net(s, 0));
        sentence(30, "BAD");
        given(() -> tell(0, GASKET));
        badOutside(0, 3, k -> x.rings(0, k));
        badOutside(0, 3, k -> x.rings(7, k));
        refusedAlike(30, "UNLIKE", s -> x.rings(s, 0));
    }

    private static void inIs(String what, String told, int px, int py, int q, int isIn) {
        tellAmong(told);
        int goOn = new Plain(told).goOn(px, py, q);
        due(what, x.in(0, px, py, q), isIn);
        due(what + ": asked()", x.asked(), goOn);
        due(what + ": none goes on, just if it is not in", goOn > 0 ? 1 : 0, isIn);
    }

    private static void in() {
        sentence(31, "Whether a place is IN: 1, 0; how many places one goes on over (that are within, and from which "
                + "one goes on for ever) by asked().");
        inIs("a corner", GASKET, 0, 0, 1, 1);
        inIs("the middle of a side", GASKET, 1, 1, 2, 1);
        inIs("a hole's middle", GASKET, 1, 1, 3, 0);
        inIs("a square's middle", SQUARE, 1, 1, 2, 1);
        inIs("not in lowest terms", SQUARE, 6, 6, 12, 1);
        inIs("one move's only place", "2/a-9-9", -9, -9, 1, 1);
        inIs("beside one move's only place", "2/a-9-9", -9, -8, 1, 0);
        anew();
        tell(0, SQUARE);
        x.in(0, 1, 1, 2);
        due("a square's middle and four corners", x.asked(), 5);
        x.in(0, 3, 0, 1);
        due("none", x.asked(), 0);
        sentence(31, "IN: a place (x by q, y by q; q 1 .. 12, x, y -200 .. 200) is IN the SHAPE, if one can go on for "
                + "ever: from p to b p less SHIFT i, within the bounds that hold the SHAPE (least and greatest SHIFT by "
                + "(b less 1), in x and in y).");
        for (int q = 1; q <= 12; q++) {
            inIs("the greatest corner, q " + q, FAR, 9 * q, 9 * q, q, 1);
            inIs("the least corner, q " + q, FAR, -9 * q, -9 * q, q, 1);
            inIs("behind the greatest x, q " + q, FAR, 9 * q + 1, 9 * q, q, 0);
            inIs("behind the greatest y, q " + q, FAR, 9 * q, 9 * q + 1, q, 0);
            inIs("behind the least x, q " + q, FAR, -9 * q - 1, -9 * q, q, 0);
            inIs("behind the least y, q " + q, FAR, -9 * q, -9 * q - 1, q, 0);
        }
        for (int base = 3; base <= 4; base++) {
            int by = base - 1;
            for (int q = by; q <= 12; q += by) {
                inIs("one move far off, q " + q, base + "/a9-9", 9 * q / by, -9 * q / by, q, 1);
                inIs("one move far off below, q " + q, base + "/a-99", -9 * q / by, 9 * q / by, q, 1);
                inIs("beside one move far off, q " + q, base + "/a9-9", 9 * q / by - 1, -9 * q / by, q, 0);
                inIs("a least corner above 0, q " + q, base + "/a67/a89", 6 * q / by, 7 * q / by, q, 1);
                inIs("a greatest corner below 0, q " + q, base + "/a-6-7/a-8-9", -6 * q / by, -7 * q / by, q, 1);
            }
        }
        inIs("bounds that are halves", "3/a00/a11", 1, 1, 2, 1);
        inIs("bounds that are halves, whole places", "3/a00/a11", 1, 1, 1, 0);
        inIs("bounds that are thirds", "4/a00/a1-1", 4, -4, 12, 1);
        inIs("behind bounds that are thirds", "4/a00/a1-1", 5, -5, 12, 0);
        inIs("below bounds that are thirds", "4/a00/a1-1", -1, 1, 12, 0);
        for (int far : new int[] {-200, 200}) {
            inIs("far off in x", FAR, far, 0, 12, 0);
            inIs("far off in y", FAR, 0, far, 12, 0);
            inIs("far off in both", FAR, far, -far, 1, 0);
        }
    }

    private static void inItself() {
        sentence(31, "The SHAPE is what is the union of its own images by all MOVES "
                + "(the one such that is shut and not empty).");
        String[] told = {GASKET, CROSS, "3/a00/a20/a02/a22", "2/a00/a10/a-11"};
        for (String moves : told) {
            Plain plain = new Plain(moves);
            int seen = 0;
            for (int px = -12; px <= 24; px++) {
                for (int py = -1; py <= 13; py++) {
                    anew();
                    tell(0, moves);
                    boolean ofImage = false;
                    for (int[] move : plain.moves) {
                        int backX = plain.base * px - 12 * move[1], backY = plain.base * py - 12 * move[2];
                        ofImage |= x.in(0, backX, backY, 12) == 1;
                    }
                    due("in, just if it is in an image", x.in(0, px, py, 12), ofImage ? 1 : 0);
                    seen += ofImage ? 1 : 0;
                }
            }
            holds("places are in, and others are not", seen > 0 && seen < 37 * 15);
        }
    }

    private static void inRefused() {
        refusedAlike(31, "UNLIKE", s -> x.in(s, 0, 0, 1));
        sentence(31, "BAD");
        given(() -> tell(0, GASKET));
        badOutside(-200, 200, px -> x.in(0, px, 0, 12));
        badOutside(-200, 200, py -> x.in(0, 0, py, 12));
        badOutside(1, 12, q -> x.in(0, 0, 0, q));
        badOutside(1, 12, q -> x.in(7, 0, 0, q));
        bad(() -> x.in(7, 201, 0, 1), () -> x.in(7, 0, -201, 1), () -> x.in(8, 0, 0, 1));
        sentence(31, "SPENT: more than 2000 places within are come to.");
        due("just 2000", new Plain(PLACES_2000).comeTo(-11, 57, 11).size(), 2000);
        inIs("just 2000", PLACES_2000, -11, 57, 11, 1);
        due("one more", new Plain(PLACES_2001).comeTo(-13, 83, 11).size(), 2001);
        given(() -> tell(0, PLACES_2001));
        spent(() -> x.in(0, -13, 83, 11));
        anew();
        due("the shape is asked again", x.in(0, 200, 200, 1), 0);
        sentence(31, "(SPENT last.)");
        given(() -> {
            tell(0, PLACES_2001);
            fillAlike(0, 5, 1);
            x.weighed(1, 0, 0);
            x.barred(2, 0, 0);
            tell(3, PLACES_2001.replace("a05", "b05"));
        });
        found(UNLIKE, () -> x.in(1, -13, 83, 11), () -> x.in(2, -13, 83, 11), () -> x.in(3, -13, 83, 11));
        found(NOTHING, () -> x.in(7, -13, 83, 11));
        bad(() -> x.in(8, -13, 83, 11), () -> x.in(0, -13, 83, 13));
        spent(() -> x.in(0, -13, 83, 11));
    }

    private static void rim() {
        sentence(32, "The ways of k (0 .. 6) steps from all ALIVE VECTORS but (0, 0) on over ALIVE ones ((0, 0), too; "
                + "for each step each i and j by itself), told by many(): 1.");
        String[] told = {"2/a55", "2/a00/a00", GASKET, SQUARE, CROSS, DUST, LINE_TWICE, SIX,
            "2/a-9-9/a99/a-99/a9-9/a00/a01"};
        for (String moves : told) {
            Plain plain = new Plain(moves);
            tellAmong(moves);
            for (int k = 0; k <= 6; k++) {
                tellsMany("rim of " + moves + " at " + k, x.rim(0, k), plain.rim(k));
            }
        }
        anew();
        tell(0, LINE_TWICE);
        tellsMany("none of (0, 0) alone", x.rim(0, 0), 4);
        // from 1: once each to 0 and 4 (out), twice to 1 and 3 (out), thrice to 2; from 2: once to 2, the rest is out
        tellsMany("over (0, 0), each i and j by itself", x.rim(0, 1), 14);
        sentence(32, "BAD");
        given(() -> tell(0, GASKET));
        badOutside(0, 6, k -> x.rim(0, k));
        badOutside(0, 6, k -> x.rim(7, k));
        refusedAlike(32, "UNLIKE", s -> x.rim(s, 0));
    }

    private static void notAskedOfOthers() {
        sentence(25, "(Of a BARRED or WEIGHED one that is straight these are not asked: UNLIKE.)");
        given(() -> {
            tell(0, LINE_TWICE);
            fill(0, 1, 1, 1);
            x.weighed(1, 0, 0);
            fill(0, 0, 0, 0);
            x.barred(2, 0, 0);
        });
        for (int i = 1; i <= 2; i++) {
            int s = i;
            found(UNLIKE, () -> x.alive(s), () -> x.meets(s, 0, 0), () -> x.beside(s, 0), () -> x.hangs(s),
                    () -> x.net(s, 0), () -> x.rings(s, 0), () -> x.in(s, 0, 0, 1), () -> x.rim(s, 0),
                    () -> x.mark(s, 1), () -> x.mark(s, 2));
        }
    }
}
