import java.util.Arrays;

/** Promises 1 to 6: a new object, and rows. */
final class RowSentences extends Sentences {
    private static final int MOST = 40;

    static void all() {
        newObject();
        callsOfAnObject();
        row();
        lay();
        tear();
        copy();
        copyRefused();
        average();
    }

    private static void newObject() {
        sentence(1, "No ROWS, TEXTS, SHAPES.");
        x = new SelfShapes();
        for (int what = 0; what <= 3; what++) {
            due("count(" + what + ")", x.count(what), 0);
        }
        long h = 17;
        for (int missing = 0; missing < 8 + 6 + 4; missing++) {
            h = 31 * h - 1;
        }
        due("digest()", x.digest(), h);
        sentence(1, "or missing (at first)");
        given(() -> x = new SelfShapes());
        for (int i = 0; i < 6; i++) {
            int r = i;
            found(NOTHING, () -> x.lay(r, 0, 0), () -> x.tear(r), () -> x.average(r));
        }
        for (int i = 0; i < 4; i++) {
            int t = i;
            found(NOTHING, () -> x.put(t, 0, 0), () -> x.fault(t), () -> x.shape(0, t));
        }
        for (int i = 0; i < 8; i++) {
            int s = i;
            found(NOTHING, () -> x.drop(s), () -> x.told(s, 0), () -> x.words(s, 0));
        }
    }

    private static void callsOfAnObject() {
        sentence(1, "An object is used for at most 512 calls after it has been made");
        x = new SelfShapes();
        x.row(0, 1);
        for (int call = 2; call <= 510; call++) {
            due("call " + call, x.lay(0, 0, call), 1);
        }
        due("call 511", x.asked(), 509);
        due("call 512", x.lay(0, 0, 0), 1);
        SelfShapes one = new SelfShapes();
        SelfShapes other = new SelfShapes();
        one.row(0, 1);
        one.lay(0, 0, 7);
        due("another object has no row", other.lay(0, 0, 8), SelfShapes.FINDING);
        due("another object's finding", other.finding(), NOTHING);
        due("no finding of this one", one.finding(), 0);
        one.lay(0, 0, 9);
        due("this one's asked()", one.asked(), 7);
        due("the other one's asked()", other.asked(), 0);
    }

    private static void row() {
        sentence(2, "ROWS 0 .. 5 are rows of 0 to 40 ints");
        for (int r = 0; r <= 5; r++) {
            for (int n : new int[] {0, 1, 39, MOST}) {
                anew();
                due("row(" + r + ", " + n + ")", x.row(r, n), n);
                due("its last place", x.lay(r, n - 1, 1), n > 0 ? 1 : SelfShapes.FINDING);
                due("behind its last place", x.lay(r, n, 1), SelfShapes.FINDING);
                due("rows", x.count(0), 1);
            }
        }
        sentence(2, "A ROW is there with n ints 0: n.");
        fillAlike(0, MOST, LOW);
        fillAlike(1, 2, 9);
        due("as long again", x.row(0, MOST), MOST);
        rowIs("as long again", 0, new int[MOST]);
        anew();
        fillAlike(0, MOST, -1);
        due("none", x.row(0, 0), 0);
        rowIs("none", 0);
        due("longer again", x.row(0, MOST), MOST);
        rowIs("longer again", 0, new int[MOST]);
        given(() -> fill(1, 8, 9));
        asks("told ahead", x.lay(1, 0, 7), 8);
        x.row(0, MOST);
        x.row(2, 0);
        due("asked() stays", x.asked(), 8);
        rowIs("the one between", 1, 7, 9);
        sentence(2, "BAD: also n above 40");
        given(() -> fill(0, 7, 8));
        bad(() -> x.row(0, 41), () -> x.row(0, HIGH), () -> x.row(1, 41), () -> x.row(6, 41));
        badOutside(0, 5, r -> x.row(r, 0));
        badOutside(0, 5, r -> x.row(r, -1));
        sentence(2, "SIZE: below 0");
        given(() -> fill(0, 7, 8));
        found(SIZE, () -> x.row(0, -1), () -> x.row(0, LOW), () -> x.row(5, -1), () -> x.row(5, LOW));
    }

    private static void lay() {
        sentence(3, "Place i of a ROW is v: what it was, told by asked(): 1.");
        int[] numbers = {LOW, HIGH, -1, 0, 1};
        fill(0, numbers);
        rowIs("each number", 0, numbers);
        asks("the first", x.lay(0, 0, 5), LOW);
        asks("the last", x.lay(0, 4, 6), 1);
        rowIs("the others stay", 0, 5, HIGH, -1, 0, 6);
        anew();
        x.row(5, MOST);
        asks("the last of all", x.lay(5, MOST - 1, HIGH), 0);
        asks("the last of all again", x.lay(5, MOST - 1, HIGH), HIGH);
        asks("the one ahead", x.lay(5, MOST - 2, 1), 0);
        sentence(3, "BAD");
        given(() -> fill(0, 7));
        badOutside(0, 5, r -> x.lay(r, 0, 1));
        badOutside(0, 5, r -> x.lay(r, -1, 1));
        sentence(3, "NOTHING");
        given(() -> {
            x.row(1, 3);
            x.tear(1);
        });
        found(NOTHING, () -> x.lay(0, 0, 1), () -> x.lay(1, 0, 1), () -> x.lay(0, -1, 1), () -> x.lay(0, MOST, 1));
        sentence(3, "BEYOND");
        given(() -> {
            fill(0, 7, 8);
            x.row(1, 0);
            x.row(2, MOST);
            x.row(3, MOST);
            x.row(3, 1);
        });
        found(BEYOND, () -> x.lay(0, 2, 1), () -> x.lay(0, -1, 1), () -> x.lay(0, LOW, 1), () -> x.lay(0, HIGH, 1));
        found(BEYOND, () -> x.lay(1, 0, 1), () -> x.lay(1, -1, 1), () -> x.lay(2, MOST, 1), () -> x.lay(3, 1, 1));
    }

    private static void tear() {
        sentence(4, "A ROW is missing: 1.");
        for (int r = 0; r <= 5; r++) {
            anew();
            for (int other = 0; other <= 5; other++) {
                x.row(other, other == 0 ? 0 : MOST);
            }
            due("tear(" + r + ")", x.tear(r), 1);
            due("rows left", x.count(0), 5);
            due("it is missing", x.lay(r, 0, 0), SelfShapes.FINDING);
            due("it is missing: finding()", x.finding(), NOTHING);
            due("there again", x.row(r, 1), 1);
            asks("with 0", x.lay(r, 0, 1), 0);
        }
        sentence(4, "BAD");
        given(() -> fill(0, 7));
        badOutside(0, 5, r -> x.tear(r));
        sentence(4, "NOTHING");
        given(() -> {
            x.row(1, 0);
            x.tear(1);
        });
        found(NOTHING, () -> x.tear(0), () -> x.tear(1), () -> x.tear(5));
    }

    private static void copy() {
        sentence(5, "n places of a ROW, from one on, come to those of another one (perhaps itself) from one on, "
                + "as if taken ahead: 1.");
        int[] counted = new int[MOST];
        for (int i = 0; i < MOST; i++) {
            counted[i] = 100 + i;
        }
        fill(0, counted);
        x.row(1, MOST);
        due("all of a full row", x.copy(0, 0, 1, 0, MOST), 1);
        rowIs("all of a full row", 1, counted);
        due("up by one on itself", x.copy(0, 0, 0, 1, MOST - 1), 1);
        int[] up = new int[MOST];
        System.arraycopy(counted, 0, up, 1, MOST - 1);
        up[0] = 100;
        rowIs("up by one on itself", 0, up);
        due("down by one on itself", x.copy(1, 1, 1, 0, MOST - 1), 1);
        int[] down = Arrays.copyOfRange(counted, 1, MOST + 1);
        down[MOST - 1] = 139;
        rowIs("down by one on itself", 1, down);
        given(() -> {
            fill(0, 1, 2, 3);
            fill(1, 9);
            x.row(2, 0);
        });
        due("onto its own place", x.copy(0, 0, 0, 0, 3), 1);
        due("none from the end", x.copy(0, 3, 1, 1, 0), 1);
        due("none of an empty one", x.copy(2, 0, 2, 0, 0), 1);
        rowIs("as it was", 0, 1, 2, 3);
        due("the last to the only one", x.copy(0, 2, 1, 0, 1), 1);
        rowIs("the only one", 1, 3);
        anew();
        x.copy(0, 0, 0, 1, 2);
        due("asked() stays", x.asked(), 0);
        rowIs("the rest stays", 0, 1, 1, 2);
    }

    private static void copyRefused() {
        sentence(5, "BAD");
        given(() -> fill(0, 7));
        badOutside(0, 5, r -> x.copy(r, 0, 0, 0, 1));
        badOutside(0, 5, to -> x.copy(0, 0, to, 0, 1));
        badOutside(0, 5, r -> x.copy(r, -1, r, -1, -1));
        sentence(5, "SIZE: n below 0");
        given(() -> fill(0, 7));
        found(SIZE, () -> x.copy(0, 0, 0, 0, -1), () -> x.copy(0, 0, 0, 0, LOW), () -> x.copy(1, 0, 2, 0, -1),
                () -> x.copy(0, 1, 0, 1, -1));
        sentence(5, "NOTHING: either");
        given(() -> fill(0, 7));
        found(NOTHING, () -> x.copy(1, 0, 0, 0, 1), () -> x.copy(0, 0, 1, 0, 1), () -> x.copy(1, 0, 1, 0, 0),
                () -> x.copy(0, 9, 1, 9, 9));
        sentence(5, "BEYOND: not so many there");
        given(() -> {
            fill(0, 1, 2, 3);
            fill(1, 9, 8);
            x.row(2, 0);
            fillAlike(3, MOST, 5);
        });
        found(BEYOND, () -> x.copy(0, 0, 0, 0, 4), () -> x.copy(0, 1, 0, 0, 3), () -> x.copy(0, 0, 0, 1, 3),
                () -> x.copy(0, 0, 1, 0, 3), () -> x.copy(1, 0, 0, 2, 2), () -> x.copy(2, 0, 0, 0, 1),
                () -> x.copy(0, 0, 2, 0, 1), () -> x.copy(3, 0, 3, 0, MOST + 1), () -> x.copy(3, 1, 3, 0, MOST));
        found(BEYOND, () -> x.copy(0, -1, 0, 0, 1), () -> x.copy(0, 0, 0, -1, 1), () -> x.copy(0, -1, 0, 0, 0),
                () -> x.copy(0, 4, 0, 0, 0), () -> x.copy(0, 0, 0, 4, 0), () -> x.copy(2, 1, 0, 0, 0));
        // sums that go around must not look like places that are there
        found(BEYOND, () -> x.copy(0, 1, 0, 0, HIGH), () -> x.copy(0, HIGH, 0, 0, 1), () -> x.copy(0, 0, 0, HIGH, 1),
                () -> x.copy(0, HIGH, 0, HIGH, HIGH), () -> x.copy(0, LOW, 0, 0, HIGH),
                () -> x.copy(0, 0, 0, LOW, HIGH), () -> x.copy(0, LOW, 0, LOW, 1));
    }

    private static void averageIs(String what, int due, int... numbers) {
        fill(0, numbers);
        asks(what, x.average(0), due);
        rowIs(what, 0, numbers);
    }

    private static void average() {
        sentence(6, "The mean of a ROW's ints, cut, told by asked(): 1.");
        averageIs("one", LOW, LOW);
        averageIs("cut above 0", 3, 7, 0);
        averageIs("cut below 0", -3, -7, 0);
        averageIs("cut to 0", 0, 1, 0, 0, 0);
        averageIs("cut to 0 from below", 0, -1, -1, -1, 0);
        averageIs("lowest and highest", 0, LOW, HIGH);
        averageIs("a sum that goes around", HIGH - 1, HIGH, HIGH, HIGH - 1);
        averageIs("a sum that goes around below", LOW + 1, LOW, LOW, LOW + 2);
        anew();
        fillAlike(0, MOST, HIGH);
        asks("a full row of the highest", x.average(0), HIGH);
        fillAlike(0, MOST, LOW);
        asks("a full row of the lowest", x.average(0), LOW);
        sentence(6, "BAD");
        given(() -> fill(0, 7));
        badOutside(0, 5, r -> x.average(r));
        sentence(6, "NOTHING");
        given(() -> {
            fill(0, 7);
            x.tear(0);
        });
        found(NOTHING, () -> x.average(0), () -> x.average(5));
        sentence(6, "NOUGHT");
        given(() -> {
            fill(0, 7);
            x.row(0, 0);
        });
        found(NOUGHT, () -> x.average(0));
    }
}
