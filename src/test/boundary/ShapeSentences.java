/** Promises 10 to 17: shapes, how they are made and what is told of them. */
final class ShapeSentences extends Sentences {
    private static final String LETTERS = "abcdefgh";

    static void all() {
        shape();
        kinds();
        shapeRefused();
        weighed();
        weighedRefused();
        barred();
        barredRefused();
        ledBack();
        ledBackRefused();
        drop();
        told();
        move();
        mark();
        markRefused();
    }

    private static void shapeIs(String what, int s, int kind, int base, int m) {
        asks(what + ": KIND", x.told(s, 0), kind);
        asks(what + ": BASE", x.told(s, 1), base);
        asks(what + ": m", x.told(s, 2), m);
    }

    private static void moveIs(String what, int s, int i, int turn, int px, int py) {
        asks(what + ": TURN", x.move(s, i, 0), turn);
        asks(what + ": x", x.move(s, i, 1), px);
        asks(what + ": y", x.move(s, i, 2), py);
    }

    private static void shape() {
        sentence(10, "A SHAPE by a TEXT (anew): its KIND.");
        given(() -> {
            oneOfEachKind();
            write(0, "4/a01/a10");
            write(1, "3/a01/c10");
        });
        for (int s = 0; s <= 5; s++) {
            anew();
            due("anew", x.shape(s, 0), 2);
            shapeIs("anew", s, 2, 4, 2);
            due("no third move is left", x.move(s, 2, 0), SelfShapes.FINDING);
            due("no weights are left", x.mark(s, 3), SelfShapes.FINDING);
            due("no barred pairs are left", x.mark(s, 4), SelfShapes.FINDING);
            tellsMany("all words", x.words(s, 2), 4);
            due("shapes", x.count(2), s < 5 ? 5 : 6);
            due("anew, turned", x.shape(s, 1), 0);
            due("no longer straight", x.mark(s, 1), SelfShapes.FINDING);
        }
        sentence(10, "SHAPES 0 .. 7 (missing at first) have a BASE b (2 .. 4) and MOVES 0 .. m - 1 (m 1 .. 6): "
                + "a TURN 0 .. 7 and a SHIFT (x, y, -9 .. 9 each).");
        for (int s = 0; s <= 7; s++) {
            for (int base = 2; base <= 4; base++) {
                anew();
                due("one move", tell(s, base + "/" + LETTERS.charAt(s) + "-99"), s == 0 ? 2 : 0);
                shapeIs("one move", s, s == 0 ? 2 : 0, base, 1);
                moveIs("one move", s, 0, s, -9, 9);
            }
        }
        anew();
        due("six moves", tell(7, "4/h-9-9/g99/f-99/e9-9/d-00/c0-0"), 0);
        shapeIs("six moves", 7, 0, 4, 6);
        int[][] moves = {{7, -9, -9}, {6, 9, 9}, {5, -9, 9}, {4, 9, -9}, {3, 0, 0}, {2, 0, 0}};
        for (int i = 0; i < 6; i++) {
            moveIs("move " + i + " of six", 7, i, moves[i][0], moves[i][1], moves[i][2]);
        }
    }

    private static void kinds() {
        sentence(10, "KINDS: 0 SHAPE");
        for (int turn = 1; turn <= 7; turn++) {
            due("one turn of six, the last", tell(0, "2/a00/a10/a01/a22/a33/" + LETTERS.charAt(turn) + "44"), 0);
            due("one turn of six, the first", tell(0, "2/" + LETTERS.charAt(turn) + "44/a00/a10/a01/a22/a33"), 0);
            due("one turn alone", tell(0, "2/" + LETTERS.charAt(turn) + "00"), 0);
        }
        sentence(10, "1 STRAIGHT (a SHAPE: all TURNS are 0)");
        due("six of one shift", tell(0, "4/a00/a00/a00/a00/a00/a00"), 1);
        due("the first and the last of one shift", tell(0, "4/a99/a10/a20/a30/a40/a99"), 1);
        due("0 by - and without", tell(0, "4/a0-0/a00"), 1);
        sentence(10, "2 APART (a STRAIGHT one: no two words of alike length lead to one POINT, whatever the length)");
        String[] oneAt = {"2/a02/a02", "2/a12/a10/a11", "2/a49/a48/a44", "2/a15/a18/a10", "2/a09/a01/a0-8",
            "2/a33/a70/a57/a83", "2/a08/a59/a88/a10", "2/a71/a0-4/a18/a98", "2/a57/a-69/a1-8/a99",
            "3/a-71/a58/a71/a87", "4/a-17/a-8-5/a88/a-4-1/a5-8", "3/a57/a7-7/a54/a-50"};
        for (int k = 1; k <= oneAt.length; k++) {
            due("one point first at " + k, new Plain(oneAt[k - 1]).firstOne(), k);
            due("KIND of one point first at " + k, tell(0, oneAt[k - 1]), 1);
        }
        String late = "3/a5-2/a-66/a1-6/a87";
        due("one point first at 23", new Plain(late).firstOne(), 23);
        due("KIND of one point first at 23", tell(0, late), 1);
        String[] apart = {"2/a00", "4/a9-9", "2/a00/a10", "2/a00/a30", "2/a-9-9/a99", SQUARE, "3/a00/a10/a50",
            "3/a00/a20/a70", "4/a00/a10/a20/a70", SIX, "4/a-9-9/a99/a-99/a9-9/a00/a01"};
        for (String told : apart) {
            due("never one point: " + told, new Plain(told).firstOne(), 0);
            due("KIND of " + told, tell(0, told), 2);
            anew();
        }
        sentence(10, "ONE: two unlike WORDS of k with one POINT; APART is a STRAIGHT SHAPE, if no two MOVES have one "
                + "SHIFT, and (0, 0) is not come to from any difference of two SHIFTS (over ALIVE VECTORS).");
        due("two moves have one shift", tell(0, "3/a00/a20/a00"), 1);
        due("(0, 0) is come to at once", tell(0, "3/a00/a10/a30"), 1);
        due("differences out of bounds", tell(0, "4/a-90/a90"), 2);
        due("differences that come to one another alone", tell(0, "3/a00/a10/a20"), 2);
        sentence(10, "A SHAPE that is told by MOVES is 2, if it fits, else 1, else 0.");
        due("2", tell(0, GASKET), 2);
        due("1", tell(0, LINE_TWICE), 1);
        due("0", tell(0, TURNED), 0);
        due("turns all alike are turns", tell(0, "2/c00/c10"), 0);
    }

    private static void shapeRefused() {
        sentence(10, "BAD");
        given(() -> {
            tell(0, GASKET);
            write(0, "2/a00/");
        });
        badOutside(0, 7, s -> x.shape(s, 3));
        badOutside(0, 3, t -> x.shape(0, t));
        badOutside(0, 7, s -> x.shape(s, 1));
        badOutside(0, 7, s -> x.shape(s, 0));
        sentence(10, "NOTHING");
        given(() -> tell(0, GASKET));
        found(NOTHING, () -> x.shape(0, 0), () -> x.shape(1, 2));
        sentence(10, "STATE: a FAULT.");
        given(() -> {
            tell(0, GASKET);
            write(0, "2/a00/");
            x.text(1, 0);
            write(2, "2/a00/a00/a00/a00/a00/a00/a00");
        });
        notNow(() -> x.shape(0, 0), () -> x.shape(0, 1), () -> x.shape(0, 2), () -> x.shape(7, 0));
        sentence(10, "(STATE behind NOTHING.)");
        given(() -> write(0, "x"));
        found(NOTHING, () -> x.shape(0, 1));
        notNow(() -> x.shape(0, 0));
        due("no finding by STATE", x.finding(), 0);
    }

    private static void weighed() {
        sentence(11, "A WEIGHED SHAPE: MOVES of another one (perhaps itself) with weights by a ROW: how much all weigh.");
        given(() -> {
            oneOfEachKind();
            fill(0, 7, 8, 9);
        });
        for (int of = 0; of <= 4; of++) {
            anew();
            due("of another one", x.weighed(7, of, 0), 24);
            shapeIs("of another one", 7, 3, 2, 3);
            for (int i = 0; i < 3; i++) {
                for (int what = 0; what <= 2; what++) {
                    x.move(of, i, what);
                    asks("a move of another one", x.move(7, i, what), x.asked());
                }
            }
            asks("the other one stays", x.told(of, 0), of);
            due("of itself", x.weighed(of, of, 0), 24);
            shapeIs("of itself", of, 3, 2, 3);
            tellsMany("its own weights", x.weighs(of, 1, 0, 0), 7);
        }
        sentence(11, "3 WEIGHED (a SHAPE, told as such, with a weight 1 .. 99 for each MOVE)");
        tell(0, SIX);
        fillAlike(0, 6, 1);
        due("the least", x.weighed(1, 0, 0), 6);
        fillAlike(0, 6, 99);
        due("the greatest", x.weighed(1, 0, 0), 594);
        due("what all weigh", x.mark(1, 3), 594);
        tell(0, "2/a55");
        fill(0, 1);
        due("one move, the least", x.weighed(0, 0, 0), 1);
        fill(0, 99);
        due("one move, the greatest", x.weighed(0, 0, 0), 99);
    }

    private static void weighedRefused() {
        sentence(11, "BAD");
        given(() -> {
            tell(0, GASKET);
            fill(0, 1, 1, 1);
        });
        badOutside(0, 7, s -> x.weighed(s, 0, 0));
        badOutside(0, 7, of -> x.weighed(0, of, 0));
        badOutside(0, 5, r -> x.weighed(0, 0, r));
        badOutside(0, 7, s -> x.weighed(s, 1, 1));
        sentence(11, "NOTHING: either");
        given(() -> {
            tell(0, GASKET);
            fill(0, 0);
        });
        found(NOTHING, () -> x.weighed(0, 1, 0), () -> x.weighed(0, 0, 1), () -> x.weighed(1, 1, 1));
        sentence(11, "SIZE: not m");
        given(() -> {
            oneOfEachKind();
            fill(0, 1, 1);
            fill(1, 0, 0, 0, 0);
            x.row(2, 0);
            x.row(3, 40);
        });
        found(SIZE, () -> x.weighed(7, 2, 0), () -> x.weighed(7, 2, 1), () -> x.weighed(7, 2, 2),
                () -> x.weighed(7, 2, 3), () -> x.weighed(3, 3, 0), () -> x.weighed(4, 4, 1));
        sentence(11, "UNLIKE: a weight");
        for (int weight : new int[] {0, 100, -1, LOW, HIGH, 257}) {
            for (int place = 0; place < 3; place++) {
                int at = place;
                given(() -> {
                    oneOfEachKind();
                    fill(0, 1, 1, 1);
                    x.lay(0, at, weight);
                });
                found(UNLIKE, () -> x.weighed(7, 2, 0), () -> x.weighed(3, 3, 0));
            }
        }
    }

    private static void barred() {
        sentence(12, "A BARRED SHAPE: MOVES of another one (perhaps itself), by a ROW of m sets: bit j of i: "
                + "j does not come behind i: how many pairs are barred.");
        given(() -> {
            oneOfEachKind();
            fill(0, 0, 4, 7);
        });
        for (int of = 0; of <= 4; of++) {
            anew();
            due("of another one", x.barred(7, of, 0), 4);
            shapeIs("of another one", 7, 4, 2, 3);
            asks("the other one stays", x.told(of, 0), of);
            due("of itself", x.barred(of, of, 0), 4);
            shapeIs("of itself", of, 4, 2, 3);
            // behind 0 three, behind 1 two, behind 2 none
            tellsMany("words of 2", x.words(of, 2), 5);
        }
        given(() -> tell(2, GASKET));
        fill(0, 0, 4, 0);
        x.barred(7, 2, 0);
        due("2 behind 1 is barred", x.at(7, 2, 2, 1), 0);
        due("1 behind 2 is not", x.at(7, 2, 1, 2), 1);
        sentence(12, "4 BARRED (a SHAPE, told as such, with pairs of MOVES that do not come behind one another)");
        tell(0, SIX);
        fillAlike(0, 6, 0);
        due("none", x.barred(1, 0, 0), 0);
        tellsMany("all words", x.words(1, 6), 46656);
        fillAlike(0, 6, 63);
        due("all", x.barred(1, 0, 0), 36);
        tellsMany("no words of 2", x.words(1, 2), 0);
        due("how many", x.mark(1, 4), 36);
        tell(0, "2/a11");
        fill(0, 1);
        due("one move, barred behind itself", x.barred(0, 0, 0), 1);
        fill(0, 0);
        due("one move, not barred", x.barred(0, 0, 0), 0);
        sentence(12, "Sets are told by bits.");
        tell(0, GASKET);
        for (int set = 0; set < 8; set++) {
            fill(0, set, 0, 0);
            due("pairs of " + set, x.barred(1, 0, 0), Integer.bitCount(set));
            for (int j = 0; j < 3; j++) {
                int px = j == 1 ? 1 : 0, py = j == 2 ? 1 : 0;
                due("0 and " + j + " with " + set, x.at(1, 2, px, py), (set >> j & 1) == 1 ? 0 : 1);
            }
        }
    }

    private static void barredRefused() {
        sentence(12, "BAD");
        given(() -> {
            tell(0, GASKET);
            fill(0, 1, 1, 1);
        });
        badOutside(0, 7, s -> x.barred(s, 0, 0));
        badOutside(0, 7, of -> x.barred(0, of, 0));
        badOutside(0, 5, r -> x.barred(0, 0, r));
        badOutside(0, 7, s -> x.barred(s, 1, 1));
        sentence(12, "NOTHING");
        given(() -> {
            tell(0, GASKET);
            fill(0, 99);
        });
        found(NOTHING, () -> x.barred(0, 1, 0), () -> x.barred(0, 0, 1), () -> x.barred(1, 1, 1));
        sentence(12, "SIZE");
        given(() -> {
            oneOfEachKind();
            fill(0, 1, 1);
            fill(1, 8, 8, 8, 8);
            x.row(2, 0);
            x.row(3, 40);
        });
        found(SIZE, () -> x.barred(7, 2, 0), () -> x.barred(7, 2, 1), () -> x.barred(7, 2, 2),
                () -> x.barred(7, 2, 3), () -> x.barred(3, 3, 0), () -> x.barred(4, 4, 1));
        sentence(12, "UNLIKE: bits beyond m");
        for (int set : new int[] {8, 15, 64, 1 << 30, -1, -8, LOW, HIGH}) {
            for (int place = 0; place < 3; place++) {
                int at = place;
                given(() -> {
                    oneOfEachKind();
                    fill(0, 7, 7, 7);
                    x.lay(0, at, set);
                });
                found(UNLIKE, () -> x.barred(7, 2, 0), () -> x.barred(4, 4, 0));
            }
        }
        given(() -> {
            tell(0, SIX);
            fillAlike(0, 6, 63);
            fillAlike(1, 6, 64);
            tell(1, "2/a00");
            fill(2, 2);
        });
        found(UNLIKE, () -> x.barred(7, 0, 1), () -> x.barred(7, 1, 2));
        anew();
        due("all bits of six", x.barred(7, 0, 0), 36);
    }

    private static void ledBack() {
        sentence(13, "A SHAPE LED BACK from a ROW of lines: its KIND.");
        given(() -> {
            oneOfEachKind();
            fill(0, 1, 2);
        });
        for (int s = 0; s <= 7; s++) {
            anew();
            due("anew", x.ledBack(s, 0), 2);
            shapeIs("anew", s, 2, 2, 2);
            due("no weights are left", x.mark(s, 3), SelfShapes.FINDING);
            due("no barred pairs are left", x.mark(s, 4), SelfShapes.FINDING);
        }
        sentence(13, "LED BACK from a ROW of lines (h lines of bits, h 2 .. 4, bit x of line y): BASE h, MOVES with "
                + "TURN 0 and SHIFT (x, y) for each bit (0 .. h - 1), by y, then x.");
        for (int h = 2; h <= 4; h++) {
            for (int px = 0; px < h; px++) {
                for (int py = 0; py < h; py++) {
                    anew();
                    x.row(0, h);
                    x.lay(0, py, 1 << px);
                    due("one bit", x.ledBack(0, 0), 2);
                    shapeIs("one bit", 0, 2, h, 1);
                    moveIs("one bit", 0, 0, 0, px, py);
                }
            }
        }
        ledBackIs(new int[] {3, 3}, 0, 0, 1, 0, 0, 1, 1, 1);
        ledBackIs(new int[] {6, 5, 3}, 1, 0, 2, 0, 0, 1, 2, 1, 0, 2, 1, 2);
        ledBackIs(new int[] {8, 0, 15, 1}, 3, 0, 0, 2, 1, 2, 2, 2, 3, 2, 0, 3);
        ledBackIs(new int[] {0, 7, 7}, 0, 1, 1, 1, 2, 1, 0, 2, 1, 2, 2, 2);
    }

    private static void ledBackIs(int[] lines, int... shifts) {
        anew();
        fill(0, lines);
        due("led back", x.ledBack(7, 0), 2);
        shapeIs("led back", 7, 2, lines.length, shifts.length / 2);
        for (int i = 0; i < shifts.length / 2; i++) {
            moveIs("move " + i, 7, i, 0, shifts[2 * i], shifts[2 * i + 1]);
        }
    }

    private static void notLedBack(int finding, int... lines) {
        given(() -> {
            oneOfEachKind();
            fill(0, lines);
        });
        found(finding, () -> x.ledBack(4, 0), () -> x.ledBack(7, 0));
    }

    private static void ledBackRefused() {
        sentence(13, "BAD");
        given(() -> fill(0, 1, 2));
        badOutside(0, 7, s -> x.ledBack(s, 0));
        badOutside(0, 5, r -> x.ledBack(0, r));
        badOutside(0, 7, s -> x.ledBack(s, 1));
        sentence(13, "NOTHING");
        given(() -> fill(0, 1, 2));
        found(NOTHING, () -> x.ledBack(0, 1), () -> x.ledBack(7, 5));
        sentence(13, "SIZE: no lines");
        notLedBack(SIZE);
        sentence(13, "one, or more than 4");
        notLedBack(SIZE, 1);
        notLedBack(SIZE, 0);
        notLedBack(SIZE, 2);
        notLedBack(SIZE, 1, 0, 0, 0, 0);
        notLedBack(SIZE, 99, -1, 0, 0, 0);
        notLedBack(SIZE, new int[40]);
        sentence(13, "UNLIKE: bits beyond");
        notLedBack(UNLIKE, 4, 1);
        notLedBack(UNLIKE, 1, 4);
        notLedBack(UNLIKE, 1, 1, 8);
        notLedBack(UNLIKE, 1, 1, 1, 16);
        notLedBack(UNLIKE, -1, 1);
        notLedBack(UNLIKE, 1, LOW);
        notLedBack(UNLIKE, HIGH, 0, 0);
        notLedBack(UNLIKE, 1 << 8, 1);
        sentence(13, "none at all");
        notLedBack(UNLIKE, 0, 0);
        notLedBack(UNLIKE, 0, 0, 0);
        notLedBack(UNLIKE, 0, 0, 0, 0);
        sentence(13, "more than 6");
        notLedBack(UNLIKE, 7, 7, 1);
        notLedBack(UNLIKE, 15, 3, 0, 1);
        notLedBack(UNLIKE, 15, 15, 15, 15);
        given(() -> fill(0, 15, 3, 0, 0));
        due("just 6", x.ledBack(0, 0), 2);
    }

    private static void drop() {
        sentence(14, "A SHAPE is missing: 1.");
        for (int s = 0; s <= 4; s++) {
            given(() -> oneOfEachKind());
            due("drop(" + s + ")", x.drop(s), 1);
            due("shapes left", x.count(2), 4);
            due("it is missing", x.told(s, 0), SelfShapes.FINDING);
            due("it is missing: finding()", x.finding(), NOTHING);
            for (int other = 0; other <= 4; other++) {
                due("another one stays", x.told(other, 0), other == s ? SelfShapes.FINDING : 1);
            }
            due("there again", tell(s, GASKET), 2);
            tellsMany("as told", x.words(s, 2), 9);
        }
        sentence(14, "BAD");
        given(() -> tell(0, GASKET));
        badOutside(0, 7, s -> x.drop(s));
        sentence(14, "NOTHING");
        given(() -> {
            tell(0, GASKET);
            x.drop(0);
        });
        found(NOTHING, () -> x.drop(0), () -> x.drop(1), () -> x.drop(7));
    }

    private static void told() {
        sentence(15, "Of a SHAPE: 0 its KIND, 1 BASE, 2 m, told by asked(): 1.");
        given(() -> oneOfEachKind());
        for (int s = 0; s <= 4; s++) {
            shapeIs("each kind", s, s, 2, 3);
        }
        anew();
        tell(5, "4/a99");
        shapeIs("one move", 5, 2, 4, 1);
        tell(5, SIX);
        shapeIs("six moves", 5, 2, 4, 6);
        tell(5, "3/c00");
        shapeIs("base 3", 5, 0, 3, 1);
        sentence(15, "BAD");
        given(() -> tell(0, GASKET));
        badOutside(0, 7, s -> x.told(s, 0));
        badOutside(0, 2, what -> x.told(0, what));
        badOutside(0, 2, what -> x.told(1, what));
        sentence(15, "NOTHING");
        given(() -> {
            tell(0, GASKET);
            x.drop(0);
        });
        found(NOTHING, () -> x.told(0, 0), () -> x.told(1, 1), () -> x.told(7, 2));
    }

    private static void move() {
        sentence(16, "MOVE i of a SHAPE: 0 TURN, 1 x, 2 y, told by asked(): 1.");
        tell(0, "3/a-9-9/h99/d-19/a00/b0-3/g40");
        int[][] moves = {{0, -9, -9}, {7, 9, 9}, {3, -1, 9}, {0, 0, 0}, {1, 0, -3}, {6, 4, 0}};
        for (int i = 0; i < 6; i++) {
            moveIs("move " + i, 0, i, moves[i][0], moves[i][1], moves[i][2]);
        }
        fill(0, 1, 2, 3, 4, 5, 6);
        x.weighed(1, 0, 0);
        x.barred(2, 0, 0);
        moveIs("the last of a weighed one", 1, 5, 6, 4, 0);
        moveIs("the last of a barred one", 2, 5, 6, 4, 0);
        sentence(16, "BAD");
        given(() -> tell(0, GASKET));
        badOutside(0, 7, s -> x.move(s, 0, 0));
        badOutside(0, 2, what -> x.move(0, 0, what));
        badOutside(0, 2, what -> x.move(0, 3, what));
        badOutside(0, 2, what -> x.move(1, -1, what));
        sentence(16, "NOTHING");
        given(() -> tell(0, GASKET));
        found(NOTHING, () -> x.move(1, 0, 0), () -> x.move(7, -1, 2), () -> x.move(7, HIGH, 1));
        sentence(16, "BEYOND");
        given(() -> {
            tell(0, SIX);
            tell(0, GASKET);
            tell(1, SIX);
            tell(2, "2/a00");
        });
        found(BEYOND, () -> x.move(0, 3, 0), () -> x.move(0, -1, 1), () -> x.move(0, LOW, 2), () -> x.move(0, HIGH, 0),
                () -> x.move(0, 5, 0), () -> x.move(1, 6, 0), () -> x.move(2, 1, 0));
    }

    private static void mark() {
        sentence(17, "What a SHAPE that IS of a KIND tells");
        given(() -> oneOfEachKind());
        due("KIND 1 of a straight one", x.mark(1, 1), 2);
        due("KIND 2 of an apart one", x.mark(2, 2), 3);
        due("KIND 3 of a weighed one", x.mark(3, 3), 10);
        due("KIND 4 of a barred one", x.mark(4, 4), 5);
        sentence(17, "a STRAIGHT one (APART, too) R");
        String[] told = {"2/a00", "2/a-9-9/a99", "3/a-9-9/a99", "4/a-9-9/a99", "3/a-90/a80", "4/a0-9/a08", "4/a-90/a70",
            "2/a-50/a31", "2/a0-5/a14", "3/a00/a10", "4/a00/a20", "2/a00/a00", "4/a10/a00/a30/a20", "2/a50/a-40/a00"};
        int[] due = {0, 18, 9, 6, 8, 5, 5, 8, 9, 0, 0, 0, 1, 9};
        for (int i = 0; i < told.length; i++) {
            tell(0, told[i]);
            due("R of " + told[i], x.mark(0, 1), due[i]);
        }
        sentence(17, "an APART one the m by which its pieces grow");
        tell(0, "2/a00");
        due("one move", x.mark(0, 2), 1);
        tell(0, SIX);
        due("six moves", x.mark(0, 2), 6);
        sentence(17, "a WEIGHED one how much all weigh");
        tell(0, SIX);
        fillAlike(0, 6, 99);
        x.weighed(0, 0, 0);
        due("the most", x.mark(0, 3), 594);
        sentence(17, "a BARRED one how many pairs are barred");
        tell(0, SIX);
        fillAlike(0, 6, 0);
        x.barred(0, 0, 0);
        due("none", x.mark(0, 4), 0);
        fillAlike(0, 6, 63);
        x.barred(0, 0, 0);
        due("all", x.mark(0, 4), 36);
    }

    private static void markRefused() {
        sentence(17, "BAD: also KIND 0");
        given(() -> oneOfEachKind());
        for (int s = 0; s <= 5; s++) {
            int shape = s;
            bad(() -> x.mark(shape, 0));
        }
        badOutside(1, 4, kind -> x.mark(2, kind));
        badOutside(1, 4, kind -> x.mark(7, kind));
        badOutside(0, 7, s -> x.mark(s, 1));
        sentence(17, "NOTHING");
        given(() -> oneOfEachKind());
        found(NOTHING, () -> x.mark(5, 1), () -> x.mark(6, 2), () -> x.mark(7, 3), () -> x.mark(7, 4));
        sentence(17, "UNLIKE");
        given(() -> oneOfEachKind());
        for (int s = 0; s <= 4; s++) {
            for (int k = 1; k <= 4; k++) {
                int shape = s, kind = k;
                if (s != k && !(s == 2 && k == 1)) {
                    found(UNLIKE, () -> x.mark(shape, kind));
                }
            }
        }
    }
}
