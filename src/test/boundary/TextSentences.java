import java.util.regex.Matcher;
import java.util.regex.Pattern;

/** Promises 7 to 9: texts and their faults. */
final class TextSentences extends Sentences {
    private static final int MOST = 60;
    private static final Pattern MOVES = Pattern.compile("[2-4](/[a-h]-?[0-9]-?[0-9]){1,6}");

    static void all() {
        text();
        put();
        fault();
        faultPlaces();
        textOfMoves();
        faultRefused();
    }

    private static void text() {
        sentence(7, "TEXTS 0 .. 3 rows of 0 to 60 bytes");
        for (int t = 0; t <= 3; t++) {
            for (int n : new int[] {0, 1, 59, MOST}) {
                anew();
                due("text(" + t + ", " + n + ")", x.text(t, n), n);
                due("its last byte", x.put(t, n - 1, 1), n > 0 ? 1032 : SelfShapes.FINDING);
                due("behind its last byte", x.put(t, n, 1), SelfShapes.FINDING);
                due("texts", x.count(1), 1);
            }
        }
        sentence(7, "A TEXT is there with n blanks: n.");
        due("full", x.text(0, MOST), MOST);
        for (int i = 0; i < MOST; i++) {
            due("blank " + i, x.put(0, i, -i), 1032);
        }
        due("shorter anew", x.text(0, 1), 1);
        due("longer anew", x.text(0, MOST), MOST);
        for (int i = 0; i < MOST; i++) {
            due("blank anew " + i, x.put(0, i, 7), 1032);
        }
        due("another one", x.text(1, 3), 3);
        due("this one stays", x.put(0, 59, 7), 1007);
        sentence(7, "BAD: also n above 60");
        given(() -> write(0, "2/a00"));
        bad(() -> x.text(0, 61), () -> x.text(0, HIGH), () -> x.text(1, 61), () -> x.text(4, 61));
        badOutside(0, 3, t -> x.text(t, 0));
        badOutside(0, 3, t -> x.text(t, -1));
        sentence(7, "SIZE: below 0");
        given(() -> write(0, "2/a00"));
        found(SIZE, () -> x.text(0, -1), () -> x.text(0, LOW), () -> x.text(3, -1), () -> x.text(3, LOW));
    }

    private static void put() {
        sentence(8, "Byte i of a TEXT is v, cut to a byte: what it was, and 1000 more.");
        x.text(0, 3);
        x.put(0, 1, 0);
        int[][] cuts = {{0, 1000}, {1, 1001}, {127, 1127}, {128, 872}, {129, 873}, {255, 999}, {256, 1000},
            {257, 1001}, {-1, 999}, {-128, 872}, {-129, 1127}, {-256, 1000}, {HIGH, 999}, {LOW, 1000},
            {0x12345680, 872}, {50 + 256, 1050}};
        int before = 1000;
        for (int[] cut : cuts) {
            due("in the place of " + (before - 1000), x.put(0, 1, cut[0]), before);
            before = cut[1];
        }
        due("the last one", x.put(0, 1, 0), before);
        due("the byte ahead", x.put(0, 0, 0), 1032);
        due("the byte behind", x.put(0, 2, 0), 1032);
        due("asked() stays", x.asked(), 41);
        anew();
        write(0, "2/a00");
        x.put(0, 0, 50 + 512);
        due("a figure once it is cut", x.fault(0), SelfShapes.NONE);
        sentence(8, "BAD");
        given(() -> x.text(0, 2));
        badOutside(0, 3, t -> x.put(t, 0, 1));
        badOutside(0, 3, t -> x.put(t, -1, 1));
        sentence(8, "NOTHING");
        given(() -> x.text(0, 2));
        found(NOTHING, () -> x.put(1, 0, 1), () -> x.put(3, -1, 1), () -> x.put(2, MOST, 1));
        sentence(8, "BEYOND");
        given(() -> {
            x.text(0, 2);
            x.text(1, 0);
            x.text(2, MOST);
            x.text(3, MOST);
            x.text(3, 1);
        });
        found(BEYOND, () -> x.put(0, 2, 1), () -> x.put(0, -1, 1), () -> x.put(0, LOW, 1), () -> x.put(0, HIGH, 1));
        found(BEYOND, () -> x.put(1, 0, 1), () -> x.put(1, -1, 1), () -> x.put(2, MOST, 1), () -> x.put(3, 1, 1));
    }

    private static boolean canGoOn(String begin) {
        Matcher matcher = MOVES.matcher(begin);
        return matcher.matches() || matcher.hitEnd();
    }

    private static int faultOf(String signs) {
        if (MOVES.matcher(signs).matches()) {
            return SelfShapes.NONE;
        }
        int place = 0;
        while (place < signs.length() && canGoOn(signs.substring(0, place + 1))) {
            place++;
        }
        return place;
    }

    /** A text's fault, told by hand and by the pattern. */
    private static void faultIs(String signs, int due) {
        anew();
        write(0, signs);
        long before = x.digest();
        due("fault of " + signs, x.fault(0), due);
        due("the pattern for " + signs, faultOf(signs), due);
        due("nothing changes", x.digest(), before);
    }

    private static void fault() {
        sentence(9, "A FAULT of a TEXT");
        faultIs("1/a00", 0);
        faultIs("5/a00", 0);
        faultIs("2.a00", 1);
        faultIs("20a00", 1);
        faultIs("2/`00", 2);
        faultIs("2/i00", 2);
        faultIs("2/a/0", 3);
        faultIs("2/a:0", 3);
        faultIs("2/a0/", 4);
        faultIs("2/a0:", 4);
        faultIs("2/a--1", 4);
        faultIs("2/a0--", 5);
        faultIs("2/a100", 5);
        faultIs("2/a00/a00.", 9);
        sentence(9, "NONE: there is none.");
        faultIs("2/a00", SelfShapes.NONE);
        faultIs("4/h99", SelfShapes.NONE);
        faultIs("3/a-9-9", SelfShapes.NONE);
        faultIs("3/a-0-0", SelfShapes.NONE);
        faultIs("2/a00/b00/c00/d00/e00/f00", SelfShapes.NONE);
        faultIs("4/h-9-9/h-9-9/h-9-9/h-9-9/h-9-9/h-9-9", SelfShapes.NONE);
    }

    private static void faultPlaces() {
        sentence(9, "A FAULT is the first place at which it can't go on so");
        faultIs("x/z..", 0);
        faultIs("2/z..", 2);
        faultIs("2/a00/a0x/", 8);
        sentence(9, "the TEXT's size, if its end comes too early");
        String whole = "3/b-12/h9-9";
        for (int size = 0; size <= whole.length(); size++) {
            faultIs(whole.substring(0, size), size == 6 || size == 11 ? SelfShapes.NONE : size);
        }
        sentence(9, "a seventh MOVE: its /");
        String six = "2/a00/a00/a00/a00/a00/a00";
        faultIs(six, SelfShapes.NONE);
        faultIs(six + "/", 25);
        faultIs(six + "/a00", 25);
        faultIs(six + "/a00/a00", 25);
        faultIs(six + " ", 25);
        String longest = "4/h-9-9/h-9-9/h-9-9/h-9-9/h-9-9/h-9-9";
        faultIs(longest + "/h-9-9", 37);
        faultIs(longest + "/h-9-9/h-9-9/h-9-9/h-9-", 37);
        due("a full text", x.put(0, MOST - 1, 0), 1000 + '-');
    }

    private static void textOfMoves() {
        sentence(9, "A TEXT of MOVES: a figure (50 .. 52: BASE 2 .. 4), then for each MOVE / (47), a letter a .. h "
                + "(97 .. 104: TURN 0 .. 7), x and y: each an optional - (45) and one figure; no blanks.");
        String whole = "3/b-12/h9-9";
        for (int i = 0; i < whole.length(); i++) {
            for (int v = -128; v <= 127; v++) {
                char[] signs = whole.toCharArray();
                signs[i] = (char) (v & 255);
                String changed = new String(signs);
                anew();
                write(1, changed);
                due("fault with " + v + " at " + i, x.fault(1), faultOf(changed));
            }
        }
        for (int i = 0; i <= whole.length(); i++) {
            faultIs(whole.substring(0, i) + " " + whole.substring(i), i);
        }
    }

    private static void faultRefused() {
        sentence(9, "BAD");
        given(() -> write(0, "2/a00"));
        badOutside(0, 3, t -> x.fault(t));
        sentence(9, "NOTHING");
        given(() -> write(0, "2/a00"));
        found(NOTHING, () -> x.fault(1), () -> x.fault(3));
        given(() -> x.text(0, 0));
        due("an empty text is no missing one", x.fault(0), 0);
    }
}
