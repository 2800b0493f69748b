import java.util.function.IntSupplier;

/** Each promise of the document: ordinary answers, edges, and refusals in their order. */
public final class PromiseTests {
    private static final int NOTHING = 1, BEYOND = 2, UNLIKE = 3, NOUGHT = 4, SIZE = 5;
    private static final int LOW = Integer.MIN_VALUE, HIGH = Integer.MAX_VALUE;
    private static final String GASKET = "2/a00/a10/a01";
    private static final String CROSS = "3/a10/a01/a11/a21/a12";
    private static final String SQUARE = "2/a00/a10/a01/a11";
    private static final String DUST = "4/a00/a30/a03/a33";
    private static final String LINE_TWICE = "2/a00/a10/a20";
    private static final String TURNED = "2/a00/b10";

    private static SelfShapes x = new SelfShapes();
    private static int promise = 0;
    private static int checks = 0;
    private static int wrong = 0;

    public static void main(String[] args) {
        newObject();
        rows();
        copies();
        averages();
        texts();
        faults();
        shapes();
        apartShapes();
        weighedShapes();
        barredShapes();
        shapesLedBack();
        toldOfShapes();
        marks();
        pointsOfWords();
        placesOfWords();
        wordsOfSteps();
        pointsOfSteps();
        boards();
        brokenClaims();
        livingVectors();
        hanging();
        nets();
        placesIn();
        rims();
        means();
        weights();
        holesOfPictures();
        linesOfPictures();
        sameShapes();
        tellings();
        counts();
        findingsCounted();
        digests();
        System.out.println(checks + " checks, " + wrong + " wrong");
        if (wrong != 0) {
            System.exit(1);
        }
    }

    private static void begin(int number) {
        promise = number;
        x = new SelfShapes();
    }

    private static void due(String what, long got, long want) {
        checks++;
        if (got != want) {
            wrong++;
            System.out.println("promise " + promise + ": " + what + " answered " + got + ", due is " + want);
        }
    }

    /** A call that is refused changes nothing but finding() and findings(). */
    private static void refused(String what, IntSupplier call, int answer, int finding) {
        long[] before = told();
        int latest = x.finding();
        int often = finding > 0 ? x.findings(finding) : 0;
        due(what, call.getAsInt(), answer);
        long[] behind = told();
        for (int i = 0; i < before.length; i++) {
            due(what + " changed " + i, behind[i], before[i]);
        }
        due(what + " finding", x.finding(), finding > 0 ? finding : latest);
        if (finding > 0) {
            due(what + " findings", x.findings(finding), often + 1);
        }
    }

    private static long[] told() {
        return new long[] {x.digest(), x.many(), x.asked(), x.upper(), x.lower(),
            x.count(0), x.count(1), x.count(2), x.count(3)};
    }

    private static void bad(String what, IntSupplier call) {
        refused(what, call, SelfShapes.BAD, 0);
    }

    private static void found(String what, int finding, IntSupplier call) {
        refused(what, call, SelfShapes.FINDING, finding);
    }

    private static int asked(String what, int answer) {
        due(what, answer, 1);
        return x.asked();
    }

    private static long many(String what, int answer) {
        due(what, answer, 1);
        return x.many();
    }

    private static void fraction(String what, int answer, long up, long low) {
        due(what, answer, 1);
        due(what + " upper", x.upper(), up);
        due(what + " lower", x.lower(), low);
    }

    private static void write(int t, String signs) {
        x.text(t, signs.length());
        for (int i = 0; i < signs.length(); i++) {
            x.put(t, i, signs.charAt(i));
        }
    }

    private static int tell(int s, String signs) {
        write(3, signs);
        return x.shape(s, 3);
    }

    private static void fill(int r, int... numbers) {
        x.row(r, numbers.length);
        for (int i = 0; i < numbers.length; i++) {
            x.lay(r, i, numbers[i]);
        }
    }

    private static void newObject() {
        begin(1);
        int[] constants = {SelfShapes.BAD, SelfShapes.FULL, SelfShapes.FINDING, SelfShapes.STATE, SelfShapes.SPENT,
            SelfShapes.NONE};
        int[] values = {-1, -2, -3, -4, -6, -9};
        for (int i = 0; i < values.length; i++) {
            due("constant " + i, constants[i], values[i]);
        }
        for (int what = 0; what <= 3; what++) {
            due("count", x.count(what), 0);
        }
        due("many", x.many(), 0);
        due("asked", x.asked(), 0);
        due("upper", x.upper(), 0);
        due("lower", x.lower(), 1);
        due("finding", x.finding(), 0);
        for (int f = 1; f <= 5; f++) {
            due("findings", x.findings(f), 0);
        }
        long h = 17;
        for (int i = 0; i < 18; i++) {
            h = 31 * h - 1;
        }
        due("digest", x.digest(), h);
        for (int s = 0; s < 8; s++) {
            int shape = s;
            found("drop", NOTHING, () -> x.drop(shape));
        }
        for (int r = 0; r < 6; r++) {
            int row = r;
            found("tear", NOTHING, () -> x.tear(row));
        }
        for (int t = 0; t < 4; t++) {
            int text = t;
            found("fault", NOTHING, () -> x.fault(text));
        }
    }

    private static void rows() {
        begin(2);
        due("row", x.row(0, 3), 3);
        due("row empty", x.row(5, 0), 0);
        due("row full", x.row(1, 40), 40);
        x.lay(0, 1, 7);
        due("row anew", x.row(0, 2), 2);
        due("lay", asked("lay", x.lay(0, 1, 1)), 0);
        bad("row -1", () -> x.row(-1, 1));
        bad("row 6", () -> x.row(6, 1));
        bad("41", () -> x.row(0, 41));
        bad("highest", () -> x.row(0, HIGH));
        bad("row 6 ahead of SIZE", () -> x.row(6, -1));
        found("below 0", SIZE, () -> x.row(0, -1));
        found("lowest", SIZE, () -> x.row(2, LOW));
        begin(3);
        fill(0, 5, LOW, HIGH);
        due("what it was", asked("lay", x.lay(0, 0, 6)), 5);
        due("what it was", asked("lay", x.lay(0, 0, 1)), 6);
        due("lowest", asked("lay", x.lay(0, 1, 1)), LOW);
        due("highest", asked("lay", x.lay(0, 2, 1)), HIGH);
        bad("row 6", () -> x.lay(6, 0, 0));
        bad("row -1", () -> x.lay(-1, 0, 0));
        found("missing", NOTHING, () -> x.lay(1, -1, 0));
        found("beyond", BEYOND, () -> x.lay(0, 3, 0));
        found("below", BEYOND, () -> x.lay(0, -1, 0));
        found("lowest", BEYOND, () -> x.lay(0, LOW, 0));
        begin(4);
        x.row(2, 1);
        due("tear", x.tear(2), 1);
        due("count", x.count(0), 0);
        found("again", NOTHING, () -> x.tear(2));
        bad("row 6", () -> x.tear(6));
        bad("row -1", () -> x.tear(-1));
    }

    private static void row(String what, int r, int... numbers) {
        for (int i = 0; i < numbers.length; i++) {
            x.lay(r, i, numbers[i]);
            due(what + " at " + i, x.asked(), numbers[i]);
        }
    }

    private static void copies() {
        begin(5);
        fill(0, 1, 2, 3, 4, 5);
        fill(1, 9, 9, 9);
        due("to another", x.copy(0, 1, 1, 0, 3), 1);
        row("another", 1, 2, 3, 4);
        due("up on itself", x.copy(0, 0, 0, 1, 4), 1);
        row("up", 0, 1, 1, 2, 3, 4);
        due("down on itself", x.copy(0, 2, 0, 0, 3), 1);
        row("down", 0, 2, 3, 4, 3, 4);
        due("none at the end", x.copy(0, 5, 1, 3, 0), 1);
        bad("from none", () -> x.copy(-1, 0, 0, 0, 0));
        bad("to none", () -> x.copy(0, 0, 6, 0, -1));
        found("SIZE ahead of NOTHING", SIZE, () -> x.copy(2, 0, 0, 0, -1));
        found("from missing", NOTHING, () -> x.copy(2, 0, 0, 9, 1));
        found("to missing", NOTHING, () -> x.copy(0, 9, 2, 0, 1));
        found("not so many", BEYOND, () -> x.copy(0, 2, 0, 0, 4));
        found("not so many there", BEYOND, () -> x.copy(0, 0, 1, 1, 3));
        found("none beyond the end", BEYOND, () -> x.copy(0, 6, 0, 0, 0));
        found("below", BEYOND, () -> x.copy(0, -1, 0, 0, 1));
        found("below there", BEYOND, () -> x.copy(0, 0, 0, -1, 1));
        found("highest", BEYOND, () -> x.copy(0, HIGH, 0, 0, HIGH));
        found("lowest", BEYOND, () -> x.copy(0, LOW, 0, LOW, HIGH));
    }

    private static void averages() {
        begin(6);
        fill(0, 1, 2, 4);
        due("cut", asked("average", x.average(0)), 2);
        fill(0, -1, -2, -4);
        due("cut below 0", asked("average", x.average(0)), -2);
        fill(0, HIGH, HIGH, HIGH - 3);
        due("great", asked("average", x.average(0)), HIGH - 1);
        fill(0, LOW, LOW);
        due("low", asked("average", x.average(0)), LOW);
        x.row(1, 0);
        found("none", NOUGHT, () -> x.average(1));
        found("missing", NOTHING, () -> x.average(2));
        bad("row 6", () -> x.average(6));
        bad("row -1", () -> x.average(-1));
    }

    private static void texts() {
        begin(7);
        due("text", x.text(0, 2), 2);
        due("blank", x.put(0, 1, 65), 1032);
        due("anew", x.text(0, 2), 2);
        due("blank anew", x.put(0, 1, 65), 1032);
        due("empty", x.text(3, 0), 0);
        due("full", x.text(3, 60), 60);
        bad("text 4", () -> x.text(4, 1));
        bad("text -1", () -> x.text(-1, -1));
        bad("61", () -> x.text(0, 61));
        found("below 0", SIZE, () -> x.text(1, -1));
        begin(8);
        x.text(0, 3);
        due("put", x.put(0, 2, 300), 1032);
        due("cut to a byte", x.put(0, 2, 200), 1044);
        due("a byte above 127", x.put(0, 2, -5), 944);
        due("a byte below 0", x.put(0, 2, 0), 995);
        bad("text 4", () -> x.put(4, 0, 0));
        bad("text -1", () -> x.put(-1, 0, 0));
        found("missing", NOTHING, () -> x.put(1, -1, 0));
        found("beyond", BEYOND, () -> x.put(0, 3, 0));
        found("below", BEYOND, () -> x.put(0, -1, 0));
    }

    private static void fault(String signs, int want) {
        write(0, signs);
        due("fault of " + signs, x.fault(0), want);
        if (want != SelfShapes.NONE) {
            refused("shape of " + signs, () -> x.shape(1, 0), SelfShapes.STATE, 0);
        }
    }

    private static void faults() {
        begin(9);
        fault("", 0);
        fault("1/a00", 0);
        fault("5/a00", 0);
        fault(" 2/a00", 0);
        fault("2", 1);
        fault("22", 1);
        fault("2 /a00", 1);
        fault("2/", 2);
        fault("2/A00", 2);
        fault("2/i00", 2);
        fault("2/`00", 2);
        fault("2/a", 3);
        fault("2/a-", 4);
        fault("2/a--1", 4);
        fault("2/a0", 4);
        fault("2/a0-", 5);
        fault("2/a0--", 5);
        fault("2/a0/", 4);
        fault("2/a.00", 3);
        fault("2/a:0", 3);
        fault("2/a0:", 4);
        fault("2.a00", 1);
        fault("20a00", 1);
        fault("2/a00", SelfShapes.NONE);
        fault("2/a-0-0", SelfShapes.NONE);
        fault("4/h-9-9/g99", SelfShapes.NONE);
        fault("2/a000", 5);
        fault("2/a00 ", 5);
        fault("2/a00/", 6);
        fault("2/a00/a00/a00/a00/a00/a00", SelfShapes.NONE);
        fault("2/a00/a00/a00/a00/a00/a00/", 25);
        fault("2/a00/a00/a00/a00/a00/a00/a00", 25);
        fault("2/a00/a00/a00/a00/a00/a00a", 25);
        fault("2/a-1-1/a-1-1/a-1-1/a-1-1/a-1-1/a-1-1", SelfShapes.NONE);
        bad("text 4", () -> x.fault(4));
        bad("text -1", () -> x.fault(-1));
        found("missing", NOTHING, () -> x.fault(1));
    }

    private static void shapes() {
        begin(10);
        due("turned", tell(0, TURNED), 0);
        due("straight", tell(1, LINE_TWICE), 1);
        due("apart", tell(2, GASKET), 2);
        due("one move", tell(3, "4/a99"), 2);
        due("one move turned", tell(3, "4/c99"), 0);
        due("anew", tell(0, SQUARE), 2);
        write(1, "2/a00/");
        bad("shape 8", () -> x.shape(8, 0));
        bad("shape -1", () -> x.shape(-1, 0));
        bad("text 4", () -> x.shape(0, 4));
        bad("text -1 ahead of NOTHING", () -> x.shape(0, -1));
        found("missing", NOTHING, () -> x.shape(0, 0));
        refused("a fault", () -> x.shape(0, 1), SelfShapes.STATE, 0);
        due("kept", asked("told", x.told(0, 2)), 4);
        begin(14);
        tell(7, GASKET);
        due("drop", x.drop(7), 1);
        found("again", NOTHING, () -> x.drop(7));
        bad("shape 8", () -> x.drop(8));
        bad("shape -1", () -> x.drop(-1));
    }

    /** Two words come to one point late, or two moves have one shift, or differences are out of bounds. */
    private static void apartShapes() {
        begin(10);
        due("one shift twice", tell(0, "3/a00/a00"), 1);
        due("0, 1, 3 by 2: too many to stay apart", tell(0, "2/a00/a10/a30"), 1);
        due("0, 1 by 2", tell(0, "2/a00/a10"), 2);
        due("0, 3 by 2", tell(0, "2/a00/a30"), 2);
        due("0, 1, 2 by 3", tell(0, "3/a00/a10/a20"), 2);
        due("0, 1, 3 by 3: one at step 2", tell(0, "3/a00/a10/a30"), 1);
        due("0, 1, 5 by 3", tell(0, "3/a00/a10/a50"), 2);
        due("0, 2, 7 by 3", tell(0, "3/a00/a20/a70"), 2);
        due("one later than any step that is asked", tell(0, "2/a00/a19/a30/a08"), 1);
        due("0, 1, 2, 7 by 4", tell(0, "4/a00/a10/a20/a70"), 2);
        due("0, 9 by 4, far", tell(0, "4/a-90/a90"), 2);
    }

    private static void weighedShapes() {
        begin(11);
        tell(0, GASKET);
        fill(0, 1, 99, 5);
        due("weighed", x.weighed(1, 0, 0), 105);
        due("kind", asked("told", x.told(1, 0)), 3);
        due("moves", asked("told", x.told(1, 2)), 3);
        due("of itself", x.weighed(0, 0, 0), 105);
        due("kind of itself", asked("told", x.told(0, 0)), 3);
        tell(0, GASKET);
        fill(1, 1, 1, 0);
        fill(2, 1, 1);
        fill(3, 100, 1, 1);
        fill(4, 0, 0, 0, 0);
        bad("shape 8", () -> x.weighed(8, 0, 0));
        bad("of 8", () -> x.weighed(0, 8, 0));
        bad("row 6", () -> x.weighed(2, 3, 6));
        bad("all below", () -> x.weighed(-1, -1, -1));
        found("shape missing", NOTHING, () -> x.weighed(2, 3, 2));
        found("row missing", NOTHING, () -> x.weighed(2, 0, 5));
        found("too few", SIZE, () -> x.weighed(2, 0, 2));
        found("SIZE ahead of UNLIKE", SIZE, () -> x.weighed(2, 0, 4));
        found("a weight of 0", UNLIKE, () -> x.weighed(2, 0, 1));
        found("a weight of 100", UNLIKE, () -> x.weighed(2, 0, 3));
        fill(1, 1, -3, 1);
        found("a weight below 0", UNLIKE, () -> x.weighed(2, 0, 1));
        fill(0, 0, 0, 0);
        x.barred(3, 0, 0);
        fill(0, 7, 7, 7);
        due("of a barred one", x.weighed(4, 3, 0), 21);
    }

    private static void barredShapes() {
        begin(12);
        tell(0, GASKET);
        fill(0, 7, 0, 5);
        due("barred", x.barred(1, 0, 0), 5);
        due("kind", asked("told", x.told(1, 0)), 4);
        due("of itself", x.barred(1, 1, 0), 5);
        fill(0, 0, 0, 0);
        due("none", x.barred(2, 1, 0), 0);
        fill(1, 8, 0, 0);
        fill(2, 0, 0);
        fill(3, -1, 0, 0);
        fill(4, 8, 8, 8, 8);
        bad("shape 8", () -> x.barred(8, 0, 0));
        bad("of -1", () -> x.barred(0, -1, 0));
        bad("row 6", () -> x.barred(0, 0, 6));
        found("shape missing", NOTHING, () -> x.barred(3, 4, 2));
        found("row missing", NOTHING, () -> x.barred(3, 0, 5));
        found("too few", SIZE, () -> x.barred(3, 0, 2));
        found("SIZE ahead of UNLIKE", SIZE, () -> x.barred(3, 0, 4));
        found("bits beyond m", UNLIKE, () -> x.barred(3, 0, 1));
        found("below 0", UNLIKE, () -> x.barred(3, 0, 3));
    }

    private static void shapesLedBack() {
        begin(13);
        fill(0, 2, 3);
        due("ledBack", x.ledBack(0, 0), 2);
        due("base", asked("told", x.told(0, 1)), 2);
        due("m", asked("told", x.told(0, 2)), 3);
        int[][] moves = {{1, 0}, {0, 1}, {1, 1}};
        for (int i = 0; i < 3; i++) {
            due("turn", asked("move", x.move(0, i, 0)), 0);
            due("x", asked("move", x.move(0, i, 1)), moves[i][0]);
            due("y", asked("move", x.move(0, i, 2)), moves[i][1]);
        }
        fill(0, 0, 0, 0, 8);
        due("one bit", x.ledBack(0, 0), 2);
        due("its x", asked("move", x.move(0, 0, 1)), 3);
        fill(0, 7, 7, 0);
        due("six bits", x.ledBack(0, 0), 2);
        bad("shape 8", () -> x.ledBack(8, 0));
        bad("row 6", () -> x.ledBack(0, 6));
        found("missing", NOTHING, () -> x.ledBack(0, 1));
        ledBackRefused("no lines", SIZE);
        ledBackRefused("one", SIZE, 1);
        ledBackRefused("five", SIZE, 1, 1, 1, 1, 1);
        ledBackRefused("SIZE ahead of UNLIKE", SIZE, 99, 0, 0, 0, 0);
        ledBackRefused("bits beyond", UNLIKE, 4, 0);
        ledBackRefused("bits beyond of four", UNLIKE, 1, 0, 16, 0);
        ledBackRefused("below 0", UNLIKE, -1, 0);
        ledBackRefused("none at all", UNLIKE, 0, 0, 0);
        ledBackRefused("seven", UNLIKE, 7, 7, 1);
    }

    private static void ledBackRefused(String what, int finding, int... lines) {
        fill(0, lines);
        found(what, finding, () -> x.ledBack(3, 0));
    }

    private static void toldOfShapes() {
        begin(15);
        tell(0, "4/b-12/h9-9");
        due("kind", asked("told", x.told(0, 0)), 0);
        due("base", asked("told", x.told(0, 1)), 4);
        due("m", asked("told", x.told(0, 2)), 2);
        bad("what 3", () -> x.told(0, 3));
        bad("what -1 ahead of NOTHING", () -> x.told(1, -1));
        bad("shape 8", () -> x.told(8, 0));
        bad("shape -1", () -> x.told(-1, 0));
        found("missing", NOTHING, () -> x.told(1, 0));
        begin(16);
        tell(0, "4/b-12/h9-9");
        int[][] moves = {{1, -1, 2}, {7, 9, -9}};
        for (int i = 0; i < 2; i++) {
            for (int what = 0; what < 3; what++) {
                due("move", asked("move", x.move(0, i, what)), moves[i][what]);
            }
        }
        bad("what 3", () -> x.move(0, 0, 3));
        bad("what -1", () -> x.move(1, 9, -1));
        bad("shape 8", () -> x.move(8, 0, 0));
        found("missing", NOTHING, () -> x.move(1, 9, 0));
        found("beyond", BEYOND, () -> x.move(0, 2, 0));
        found("below", BEYOND, () -> x.move(0, -1, 0));
    }

    private static void marks() {
        begin(17);
        tell(0, TURNED);
        tell(1, LINE_TWICE);
        tell(2, "3/a-20/a03/a11");
        fill(0, 1, 2, 3);
        x.weighed(3, 2, 0);
        x.barred(4, 2, 0);
        due("R", x.mark(1, 1), 2);
        due("R of an apart one, cut", x.mark(2, 1), 1);
        due("m", x.mark(2, 2), 3);
        due("weight", x.mark(3, 3), 6);
        due("pairs", x.mark(4, 4), 4);
        tell(5, "4/a-9-9/a99");
        due("R by 3", x.mark(5, 1), 6);
        tell(5, "2/a-50/a31");
        due("R by x", x.mark(5, 1), 8);
        tell(5, "2/a0-5/a14");
        due("R by y", x.mark(5, 1), 9);
        for (int kind = 1; kind <= 4; kind++) {
            int asked = kind;
            found("a shape", UNLIKE, () -> x.mark(0, asked));
            found("missing", NOTHING, () -> x.mark(7, asked));
        }
        found("straight, not apart", UNLIKE, () -> x.mark(1, 2));
        found("straight, not weighed", UNLIKE, () -> x.mark(1, 3));
        found("apart, not barred", UNLIKE, () -> x.mark(2, 4));
        found("weighed, not asked as straight", UNLIKE, () -> x.mark(3, 1));
        found("weighed, not apart", UNLIKE, () -> x.mark(3, 2));
        found("weighed, not barred", UNLIKE, () -> x.mark(3, 4));
        found("barred, not asked as straight", UNLIKE, () -> x.mark(4, 1));
        found("barred, not weighed", UNLIKE, () -> x.mark(4, 3));
        bad("kind 0", () -> x.mark(1, 0));
        bad("kind 5", () -> x.mark(7, 5));
        bad("kind -1", () -> x.mark(1, -1));
        bad("shape 8", () -> x.mark(8, 1));
    }

    private static void point(String what, int s, int k, int px, int py) {
        due(what + " x", asked(what, x.point(s, 0, k, false)), px);
        due(what + " y", asked(what, x.point(s, 0, k, true)), py);
    }

    private static void pointsOfWords() {
        begin(18);
        String[] turned = {"a", "b", "c", "d", "e", "f", "g", "h"};
        int[][] images = {{2, 1}, {-1, 2}, {-2, -1}, {1, -2}, {1, 2}, {-2, 1}, {-1, -2}, {2, -1}};
        fill(0, 0, 1);
        for (int t = 0; t < 8; t++) {
            tell(0, "2/" + turned[t] + "00/a21");
            point("turn " + t, 0, 2, images[t][0], images[t][1]);
        }
        tell(1, GASKET);
        fill(0, 1, 2, 0, 1, 0, 0, 0, 2, 2);
        point("empty", 1, 0, 0, 0);
        point("1", 1, 1, 1, 0);
        point("1 2: the first outermost", 1, 2, 2, 1);
        point("of 4", 1, 4, 9, 4);
        point("of 8", 1, 8, 144, 65);
        tell(2, "4/a9-9");
        fill(0, 0, 0, 0, 0, 0, 0, 0, 0);
        point("the greatest", 2, 8, 196605, -196605);
        wordsRefused();
    }

    private static void wordsRefused() {
        tell(1, GASKET);
        fill(0, 0, 1, 2, 3, 0);
        x.row(1, 0);
        fill(2, -1, 0);
        due("no numbers needed", asked("point", x.point(1, 1, 0, true)), 0);
        point("those behind do not matter", 1, 3, 2, 1);
        bad("k 9", () -> x.point(1, 0, 9, true));
        bad("k -1", () -> x.point(7, 0, -1, true));
        bad("shape 8", () -> x.point(8, 0, 0, true));
        bad("row 6", () -> x.point(1, 6, 0, true));
        found("shape missing", NOTHING, () -> x.point(7, 0, 8, true));
        found("row missing", NOTHING, () -> x.point(1, 5, 0, true));
        found("fewer, ahead of UNLIKE", SIZE, () -> x.point(1, 0, 6, true));
        found("no move", UNLIKE, () -> x.point(1, 0, 4, true));
        found("below 0", UNLIKE, () -> x.point(1, 2, 1, true));
        fill(3, 7, 7, 7);
        x.barred(6, 1, 3);
        due("a barred pair is a word", asked("point", x.point(6, 0, 2, false)), 1);
        begin(19);
        tell(1, GASKET);
        fill(0, 0, 1, 2, 3, 0);
        bad("k 7", () -> x.place(1, 0, 7, 1, true));
        bad("k -1", () -> x.place(1, 0, -1, 2, true));
        bad("n 0", () -> x.place(1, 0, 0, 0, true));
        bad("n 7", () -> x.place(7, 0, 0, 7, true));
        bad("highest", () -> x.place(1, 0, HIGH, HIGH, true));
        bad("shape 8", () -> x.place(8, 0, 0, 1, true));
        bad("row 6", () -> x.place(1, 6, 0, 1, true));
        found("shape missing", NOTHING, () -> x.place(7, 0, 6, 6, true));
        found("row missing", NOTHING, () -> x.place(1, 5, 0, 1, true));
        found("fewer", SIZE, () -> x.place(1, 0, 0, 6, true));
        found("fewer by both", SIZE, () -> x.place(1, 0, 3, 3, true));
        found("no move in the word", UNLIKE, () -> x.place(1, 0, 4, 1, true));
        found("no move in the round", UNLIKE, () -> x.place(1, 0, 2, 2, true));
    }

    private static void placesOfWords() {
        begin(19);
        tell(0, GASKET);
        fill(0, 1, 2, 0);
        fraction("1 again and again", x.place(0, 0, 0, 1, false), 1, 1);
        fraction("1 again and again, y", x.place(0, 0, 0, 1, true), 0, 1);
        fraction("1 2 in turn", x.place(0, 0, 0, 2, false), 2, 3);
        fraction("1 2 in turn, y", x.place(0, 0, 0, 2, true), 1, 3);
        fraction("1, then 2", x.place(0, 0, 1, 1, true), 1, 2);
        fraction("1 2, then 0", x.place(0, 0, 2, 1, true), 1, 4);
        fraction("1, then 2 0 in turn", x.place(0, 0, 1, 2, true), 1, 3);
        tell(1, TURNED);
        fill(0, 1, 0, 1, 1);
        // b10: x = (-y + 1) / 2, y = x / 2
        fraction("turned", x.place(1, 0, 0, 1, false), 2, 5);
        fraction("turned, y", x.place(1, 0, 0, 1, true), 1, 5);
        fraction("turned behind a word", x.place(1, 0, 2, 1, false), 9, 20);
        fraction("turned behind a word, y", x.place(1, 0, 2, 1, true), 1, 10);
        tell(2, "3/a-10/e-1-2");
        fill(0, 0, 1);
        fraction("below 0", x.place(2, 0, 0, 1, false), -1, 2);
        // e-1-2: x = (y - 1) / 3, y = (x - 2) / 3
        fraction("mirrored", x.place(2, 0, 1, 1, true), -7, 24);
    }

    private static void wordsOfSteps() {
        begin(20);
        tell(0, "3/b00/b00/b00/b00/b00/b00");
        due("step 0", many("words", x.words(0, 0)), 1);
        due("step 1", many("words", x.words(0, 1)), 6);
        due("step 6", many("words", x.words(0, 6)), 46656);
        tell(1, "2/a00/a10");
        fill(0, 0, 2);
        x.barred(1, 1, 0);
        long[] due = {1, 2, 3, 5, 8, 13, 21};
        for (int k = 0; k <= 6; k++) {
            due("no 1 behind 1, step " + k, many("words", x.words(1, k)), due[k]);
        }
        tell(2, "2/a00/a10");
        fill(0, 3, 1);
        x.barred(2, 2, 0);
        long[] ends = {1, 2, 1, 1, 1, 1, 1};
        for (int k = 0; k <= 6; k++) {
            due("first and next, step " + k, many("words", x.words(2, k)), ends[k]);
        }
        bad("k 7", () -> x.words(0, 7));
        bad("k -1", () -> x.words(7, -1));
        bad("shape 8", () -> x.words(8, 0));
        found("missing", NOTHING, () -> x.words(7, 0));
    }

    private static void points(String what, int s, int k, int count, int most) {
        due(what, x.points(s, k), count);
        due(what + " most", x.asked(), most);
    }

    private static void pointsOfSteps() {
        begin(21);
        tell(0, LINE_TWICE);
        points("step 0", 0, 0, 1, 1);
        points("step 1", 0, 1, 3, 1);
        points("step 2", 0, 2, 7, 2);
        points("step 3", 0, 3, 15, 3);
        tell(1, "4/a00/a10/a20/a30/a01/a11");
        points("the most words", 1, 5, 7776, 1);
        tell(2, "4/a-9-9/a99/a-99/a9-9/a00/a01");
        points("the widest", 2, 5, 7776, 1);
        tell(3, "2/a11/a11");
        points("one", 3, 5, 1, 32);
        fill(0, 3, 3);
        x.barred(4, 3, 0);
        points("barred, step 1", 4, 1, 1, 2);
        points("barred, none", 4, 2, 0, 0);
        bad("k 6", () -> x.points(0, 6));
        bad("k -1", () -> x.points(7, -1));
        bad("shape -1", () -> x.points(-1, 0));
        found("missing", NOTHING, () -> x.points(7, 0));
        begin(22);
        tell(0, LINE_TWICE);
        int[] times = {1, 1, 2, 1, 2, 1, 1, 0};
        for (int px = 0; px < 8; px++) {
            due("at " + px, x.at(0, 2, px, 0), times[px]);
        }
        due("at step 0", x.at(0, 0, 0, 0), 1);
        due("at step 0, off", x.at(0, 0, 0, -1), 0);
        due("far off", x.at(0, 5, HIGH, LOW), 0);
        due("as far as a number goes around", x.at(0, 1, 0, 8192), 0);
        due("as far as a number goes around", x.at(0, 1, 1, -8192), 0);
        tell(2, "4/a-9-9/a99");
        due("the corner", x.at(2, 5, -3069, -3069), 1);
        due("the other corner", x.at(2, 5, 3069, 3069), 1);
        bad("k 6", () -> x.at(0, 6, 0, 0));
        bad("k -1", () -> x.at(7, -1, 0, 0));
        found("missing", NOTHING, () -> x.at(7, 0, 0, 0));
    }

    private static void boards() {
        begin(23);
        tell(0, "2/b-12/c30");
        int[][] due = {{0, 0, 0, 0}, {-1, 3, 0, 2}, {-4, 7, -2, 7}};
        for (int k = 0; k <= 2; k++) {
            for (int what = 0; what < 4; what++) {
                due("board of " + k + ": " + what, asked("board", x.board(0, k, what)), due[k][what]);
            }
        }
        tell(1, "4/a-90/a09");
        due("the widest", asked("board", x.board(1, 5, 0)), -3069);
        due("the highest", asked("board", x.board(1, 5, 3)), 3069);
        fill(0, 3, 3);
        x.barred(2, 1, 0);
        due("barred", asked("board", x.board(2, 1, 3)), 9);
        found("none", NOUGHT, () -> x.board(2, 2, 0));
        bad("k 6", () -> x.board(0, 6, 0));
        bad("what 4", () -> x.board(7, 0, 4));
        bad("what -1", () -> x.board(0, 0, -1));
        bad("shape 8", () -> x.board(8, 0, 0));
        found("missing", NOTHING, () -> x.board(7, 0, 0));
    }

    private static void brokenClaims() {
        begin(24);
        tell(0, GASKET);
        due("none", x.broken(0), SelfShapes.NONE);
        tell(1, LINE_TWICE);
        due("at 2", x.broken(1), 2);
        tell(2, "3/a00/a00");
        due("at 1", x.broken(2), 1);
        tell(3, "2/a00/a10/a01/a11/a22");
        due("at 2 in the plane", x.broken(3), 2);
        fill(0, 0, 0, 1);
        x.barred(4, 0, 0);
        due("barred", x.broken(4), 2);
        fill(0, 0, 0, 0);
        x.barred(4, 0, 0);
        due("nothing barred", x.broken(4), SelfShapes.NONE);
        tell(5, "2/a00/a10/a70");
        due("at 3", x.broken(5), 3);
        tell(5, "2/a00/a09/a10/a01");
        due("at 4", x.broken(5), 4);
        tell(5, "2/a00/a19/a10/a08");
        due("at 5", x.broken(5), 5);
        tell(5, "2/a00/a19/a30/a08");
        due("behind 5", x.broken(5), SelfShapes.NONE);
        bad("shape 8", () -> x.broken(8));
        found("missing", NOTHING, () -> x.broken(7));
    }

    private static void notStraight(int number, java.util.function.IntUnaryOperator call) {
        promise = number;
        tell(4, TURNED);
        tell(5, GASKET);
        fill(5, 1, 1, 1);
        x.weighed(6, 5, 5);
        x.barred(7, 5, 5);
        x.drop(5);
        bad("shape 8", () -> call.applyAsInt(8));
        bad("shape -1", () -> call.applyAsInt(-1));
        found("missing", NOTHING, () -> call.applyAsInt(5));
        found("turned", UNLIKE, () -> call.applyAsInt(4));
        found("weighed", UNLIKE, () -> call.applyAsInt(6));
        found("barred", UNLIKE, () -> call.applyAsInt(7));
    }

    private static void livingVectors() {
        begin(25);
        tell(0, GASKET);
        tell(1, SQUARE);
        tell(2, DUST);
        tell(3, "2/a00/a30");
        due("gasket", x.alive(0), 7);
        due("square", x.alive(1), 9);
        due("dust", x.alive(2), 9);
        due("0, 3 by 2: a line of three", x.alive(3), 7);
        tell(3, "3/a55");
        due("one move", x.alive(3), 1);
        notStraight(25, s -> x.alive(s));
        begin(26);
        tell(0, GASKET);
        for (int vx = -2; vx <= 2; vx++) {
            for (int vy = -2; vy <= 2; vy++) {
                boolean meets = Math.abs(vx) <= 1 && Math.abs(vy) <= 1 && Math.abs(vx + vy) <= 1;
                due("meets " + vx + " " + vy, x.meets(0, vx, vy), meets ? 1 : 0);
            }
        }
        due("far off", x.meets(0, LOW, HIGH), 0);
        due("far off", x.meets(0, HIGH, LOW), 0);
        tell(0, SQUARE);
        due("the least vector", x.meets(0, -1, -1), 1);
        due("the greatest vector", x.meets(0, 1, 1), 1);
        notStraight(26, s -> x.meets(s, 0, 0));
    }

    private static void hanging() {
        begin(27);
        tell(0, CROSS);
        int[] due = {4, 4, 27, 4, 4};
        for (int i = 0; i < 5; i++) {
            due("beside " + i, x.beside(0, i), due[i]);
        }
        tell(1, SQUARE);
        for (int i = 0; i < 4; i++) {
            due("all others of a square", x.beside(1, i), 15 - (1 << i));
        }
        tell(1, DUST);
        due("none", x.beside(1, 0), 0);
        tell(2, "2/a00/a00/a99");
        due("one shift", x.beside(2, 0) & 2, 2);
        found("beyond", BEYOND, () -> x.beside(0, 5));
        found("below", BEYOND, () -> x.beside(0, -1));
        notStraight(27, s -> x.beside(s, 9));
        begin(28);
        tell(0, CROSS);
        tell(1, DUST);
        tell(2, "4/a99");
        tell(3, "3/a00/a10/a20/a02/a12/a22");
        due("cross", x.hangs(0), 1);
        due("dust", x.hangs(1), 0);
        due("one move", x.hangs(2), 1);
        due("two lines", x.hangs(3), 0);
        tell(3, "4/a30/a00/a20/a10");
        due("a row, out of order", x.hangs(3), 1);
        tell(3, "4/a00/a10/a30");
        due("the last one off", x.hangs(3), 0);
        notStraight(28, s -> x.hangs(s));
    }

    private static void net(String what, int s, int k, int joints, int parts, int rings, int cuts) {
        promise = 29;
        due(what + " joints", x.net(s, k), joints);
        due(what + " parts", x.many(), parts);
        promise = 30;
        due(what + " rings", x.rings(s, k), rings);
        due(what + " cuts", x.many(), cuts);
    }

    private static void nets() {
        begin(29);
        tell(0, GASKET);
        tell(1, CROSS);
        tell(2, DUST);
        tell(3, "2/a00/a10");
        net("a point", 0, 0, 0, 1, 0, 0);
        net("gasket 1", 0, 1, 3, 1, 1, 0);
        net("gasket 2", 0, 2, 12, 1, 4, 0);
        net("cross 1", 1, 1, 4, 1, 0, 1);
        net("cross 2", 1, 2, 24, 1, 0, 13);
        net("dust 1", 2, 1, 0, 4, 0, 0);
        net("dust 3", 2, 3, 0, 64, 0, 0);
        net("a line of 8", 3, 3, 7, 1, 0, 6);
        tell(3, "3/a10/a00/a20");
        net("a line from its middle", 3, 1, 2, 1, 0, 1);
        tell(3, "3/a11/a01/a22/a02/a10/a00");
        net("rings with two ends, the first point a cut", 3, 1, 7, 1, 2, 2);
        tell(3, "3/a21/a00/a20/a02/a22/a11");
        net("rings and ends at the last point", 3, 1, 7, 1, 2, 1);
        tell(3, LINE_TWICE);
        net("a line of 7 points, each with two on both sides", 3, 2, 11, 1, 5, 0);
        tell(3, "3/a00/a10/a20/a02/a12/a22");
        net("two lines", 3, 1, 4, 2, 0, 2);
        tell(3, "3/a00/a00");
        net("one point", 3, 3, 0, 1, 0, 0);
        tell(3, "4/a00/a10/a20/a30/a01/a11");
        due("the greatest", x.net(3, 3), 172);
        bad("k 4", () -> x.net(0, 4));
        bad("k -1", () -> x.net(7, -1));
        notStraight(29, s -> x.net(s, 0));
        promise = 30;
        bad("k 4", () -> x.rings(0, 4));
        bad("k -1", () -> x.rings(7, -1));
        notStraight(30, s -> x.rings(s, 0));
    }

    private static void in(String what, int px, int py, int q, int isIn, int over) {
        due(what, x.in(0, px, py, q), isIn);
        due(what + " over", x.asked(), over);
    }

    private static void placesIn() {
        begin(31);
        tell(0, GASKET);
        in("a corner", 0, 0, 1, 1, 1);
        in("another corner", 1, 0, 1, 1, 1);
        in("the far corner of its board", 1, 1, 1, 0, 0);
        in("the middle of a side", 1, 1, 2, 1, 3);
        in("thirds", 1, 1, 3, 0, 0);
        in("thirds on a side", 2, 1, 3, 1, 2);
        in("a third of a side", 1, 0, 3, 1, 2);
        in("off", -1, 0, 12, 0, 0);
        in("far off", 200, -200, 1, 0, 0);
        in("far off", -200, 200, 12, 0, 0);
        tell(0, SQUARE);
        in("the middle of a square", 1, 1, 2, 1, 5);
        in("not in lowest terms", 6, 6, 12, 1, 5);
        tell(0, "3/a00/a20");
        in("a third of the dust", 1, 0, 3, 1, 2);
        in("a half", 1, 0, 2, 0, 0);
        in("a quarter", 1, 0, 4, 1, 2);
        in("below 0", -1, 0, 4, 0, 0);
        tell(0, "2/a76/a-6-6/a-9-9/a-1-6/a82/a-77");
        x.told(0, 1);
        due("2000 places within", x.in(0, -11, 57, 11) == SelfShapes.SPENT ? 1 : 0, 0);
        tell(0, "2/a29/a-8-8/a3-7/a05/a-96");
        refused("2001 places within", () -> x.in(0, -13, 83, 11), SelfShapes.SPENT, 0);
        bad("x 201", () -> x.in(0, 201, 0, 1));
        bad("x -201", () -> x.in(0, -201, 0, 1));
        bad("y 201", () -> x.in(7, 0, 201, 1));
        bad("y -201", () -> x.in(0, 0, -201, 1));
        bad("q 0", () -> x.in(0, 0, 0, 0));
        bad("q 13", () -> x.in(0, 0, 0, 13));
        bad("lowest", () -> x.in(0, LOW, LOW, LOW));
        notStraight(31, s -> x.in(s, 0, 0, 1));
    }

    private static void rims() {
        begin(32);
        tell(0, GASKET);
        for (int k = 0; k <= 6; k++) {
            due("gasket, step " + k, many("rim", x.rim(0, k)), 6);
        }
        tell(1, "2/a00/a10");
        due("a line", many("rim", x.rim(1, 6)), 2);
        tell(1, SQUARE);
        // sides go on by two pairs to themselves and by one to each corner beside, corners by one
        long sides = 4, corners = 4;
        for (int k = 0; k <= 6; k++) {
            due("square, step " + k, many("rim", x.rim(1, k)), sides + corners);
            corners += 2 * sides;
            sides *= 2;
        }
        tell(2, LINE_TWICE);
        // 1 to 0 once, 1 twice, 2 thrice of 2 + d; 2 to 2 once; 0 to 0 thrice, 1 and -1 twice, 2 and -2 once
        due("over (0, 0), step 1", many("rim", x.rim(2, 1)), 14);
        tell(3, "4/a99");
        due("none", many("rim", x.rim(3, 6)), 0);
        bad("k 7", () -> x.rim(0, 7));
        bad("k -1", () -> x.rim(7, -1));
        notStraight(32, s -> x.rim(s, 0));
    }

    private static void means() {
        begin(33);
        tell(0, "3/a00/a20/a-13");
        fraction("straight", x.mean(0, false), 1, 6);
        fraction("straight, y", x.mean(0, true), 1, 2);
        fill(0, 1, 2, 3);
        x.weighed(1, 0, 0);
        fraction("weighed", x.mean(1, false), 1, 12);
        fraction("weighed, y", x.mean(1, true), 3, 4);
        tell(2, TURNED);
        // 4 x = x - y + 1, 4 y = y + x
        fraction("turned", x.mean(2, false), 3, 10);
        fraction("turned, y", x.mean(2, true), 1, 10);
        tell(3, "4/c-96");
        fraction("one move", x.mean(3, false), -9, 5);
        fraction("one move, y", x.mean(3, true), 6, 5);
        tell(3, "2/a00/c00");
        fraction("none", x.mean(3, true), 0, 1);
        fill(0, 0, 0);
        x.barred(4, 3, 0);
        found("barred", UNLIKE, () -> x.mean(4, true));
        found("missing", NOTHING, () -> x.mean(7, true));
        bad("shape 8", () -> x.mean(8, true));
        bad("shape -1", () -> x.mean(-1, false));
    }

    private static void weights() {
        begin(34);
        tell(0, LINE_TWICE);
        fill(0, 2, 3, 5);
        x.weighed(1, 0, 0);
        long[] due = {4, 6, 10 + 6, 9, 15 + 10, 15, 25, 0};
        for (int px = 0; px < 8; px++) {
            due("at " + px, many("weighs", x.weighs(1, 2, px, 0)), due[px]);
        }
        due("step 0", many("weighs", x.weighs(1, 0, 0, 0)), 1);
        due("step 0, off", many("weighs", x.weighs(1, 0, 1, 0)), 0);
        due("far off", many("weighs", x.weighs(1, 5, LOW, HIGH)), 0);
        tell(2, "2/a11/a11/a11/a11/a11/a11");
        fill(0, 99, 99, 99, 99, 99, 99);
        x.weighed(2, 2, 0);
        due("the most", many("weighs", x.weighs(2, 5, 31, 31)), 73948986280224L);
        found("not weighed", UNLIKE, () -> x.weighs(0, 0, 0, 0));
        found("missing", NOTHING, () -> x.weighs(7, 0, 0, 0));
        bad("k 6", () -> x.weighs(1, 6, 0, 0));
        bad("k -1", () -> x.weighs(7, -1, 0, 0));
        bad("shape 8", () -> x.weighs(8, 0, 0, 0));
    }

    private static void holesOfPictures() {
        begin(35);
        tell(0, "3/a00/a20/a01/a21/a02/a22");
        due("a point", x.holes(0, 0), 0);
        due("two lines", x.holes(0, 1), 0);
        tell(0, "3/a10/a01/a21/a12");
        due("a ring by corners", x.holes(0, 1), 1);
        due("its step 2", x.holes(0, 2), 4);
        tell(0, "4/a10/a20/a01/a31/a12/a22");
        due("two cells in one hole", x.holes(0, 1), 1);
        tell(0, GASKET);
        due("gasket 1", x.holes(0, 1), 0);
        due("gasket 2", x.holes(0, 2), 1);
        due("gasket 3", x.holes(0, 3), 4);
        tell(0, "3/a-42/a-51/a-31/a-40");
        due("a ring below 0", x.holes(0, 1), 1);
        tell(1, "3/c23/g16");
        due("1600 cells", x.holes(1, 3), 0);
        tell(1, "4/f4-9/c18");
        refused("1602 cells", () -> x.holes(1, 2), SelfShapes.SPENT, 0);
        fill(0, 3, 3);
        x.barred(2, 1, 0);
        due("none", x.holes(2, 3), 0);
        bad("k 4", () -> x.holes(0, 4));
        bad("k -1", () -> x.holes(7, -1));
        bad("shape 8", () -> x.holes(8, 0));
        found("missing", NOTHING, () -> x.holes(7, 0));
    }

    private static void line(String what, int s, int k, int y, int cells, long bits) {
        due(what, x.line(s, k, y), cells);
        due(what + " bits", x.many(), bits);
    }

    private static void linesOfPictures() {
        begin(36);
        tell(0, GASKET);
        line("step 0", 0, 0, 0, 1, 1);
        line("gasket 0", 0, 2, 0, 4, 15);
        line("gasket 1", 0, 2, 1, 2, 5);
        line("gasket 2", 0, 2, 2, 2, 3);
        line("gasket 3", 0, 2, 3, 1, 1);
        tell(1, "2/a-33/a3-3");
        line("from the least x of all", 1, 1, 6, 1, 1);
        line("from the least y", 1, 1, 0, 1, 64);
        line("empty", 1, 1, 3, 0, 0);
        tell(2, "3/f11/h42");
        due("60 wide", x.line(2, 3, 0) > 0 ? 1 : 0, 1);
        tell(3, "2/h61/c02");
        refused("61 wide", () -> x.line(3, 3, 0), SelfShapes.SPENT, 0);
        found("BEYOND ahead of SPENT", BEYOND, () -> x.line(3, 3, 8));
        found("below", BEYOND, () -> x.line(0, 2, -1));
        found("beyond", BEYOND, () -> x.line(0, 2, 4));
        found("highest", BEYOND, () -> x.line(0, 2, HIGH));
        fill(0, 3, 3);
        x.barred(4, 3, 0);
        found("none", NOUGHT, () -> x.line(4, 3, 99));
        found("missing", NOTHING, () -> x.line(7, 0, 0));
        bad("k 4", () -> x.line(0, 4, 0));
        bad("k -1", () -> x.line(7, -1, 0));
        bad("shape 8", () -> x.line(8, 0, 0));
    }

    private static void sameShapes() {
        begin(37);
        tell(0, GASKET);
        tell(1, "2/a-3-1/a-2-1/a-30");
        tell(2, "2/a01/a00/a10");
        tell(3, "2/a00/a10/a11");
        due("moved", x.same(0, 1, 2), 1);
        due("by", x.asked(), -9);
        due("back", x.same(1, 0, 4), 1);
        due("by", x.asked(), 45);
        due("another order", x.same(0, 2, 4), 1);
        due("by", x.asked(), 0);
        due("step 0", x.same(0, 3, 0), 1);
        x.told(0, 1);
        due("not the same", x.same(0, 3, 1), 0);
        due("asked stays", x.asked(), 2);
        tell(4, "2/a00/a10");
        tell(4, "2/a00/a10/a01/a33");
        tell(5, "2/a22/a10/a01/a33");
        due("the first alone is not the same", x.same(4, 5, 1), 0);
        tell(4, "2/a00/a10");
        due("fewer", x.same(0, 4, 1), 0);
        due("more", x.same(4, 0, 1), 0);
        tell(4, "2/a00/a10/a00");
        tell(5, "4/a00/a10");
        due("words are not points", x.same(4, 5, 1), 1);
        due("another base", x.same(4, 5, 2), 0);
        tell(4, "4/a-9-9/a-99/a0-9");
        tell(5, "4/a9-9/a99/a90");
        due("far", x.same(4, 5, 4), 0);
        tell(5, "4/a0-9/a09/a9-9");
        due("far, moved", x.same(4, 5, 4), 1);
        due("by", x.asked(), 765);
        fill(0, 7, 7, 7);
        x.barred(6, 0, 0);
        x.told(0, 1);
        due("without points one", x.same(6, 0, 2), 0);
        due("asked stays", x.asked(), 2);
        due("without points both", x.same(6, 6, 2), 1);
        due("by", x.asked(), 0);
        bad("k 5", () -> x.same(0, 0, 5));
        bad("k -1", () -> x.same(7, 7, -1));
        bad("shape 8", () -> x.same(8, 7, 0));
        bad("other 8", () -> x.same(7, 8, 0));
        found("missing", NOTHING, () -> x.same(7, 0, 0));
        found("other missing", NOTHING, () -> x.same(0, 7, 0));
    }

    private static void tellings() {
        begin(38);
        tell(0, LINE_TWICE);
        fill(0, 1, 1, 1);
        x.weighed(1, 0, 0);
        due("words", many("words", x.words(0, 2)), 9);
        x.net(0, 2);
        due("net", x.many(), 1);
        x.rings(0, 2);
        due("rings", x.many(), 0);
        x.rim(0, 0);
        due("rim", x.many(), 4);
        x.weighs(1, 2, 2, 0);
        due("weighs", x.many(), 2);
        x.line(0, 1, 0);
        due("line", x.many(), 7);
        x.points(0, 1);
        x.holes(0, 1);
        due("others leave it", x.many(), 7);
        begin(39);
        tell(0, LINE_TWICE);
        fill(0, 8, 9);
        due("lay", asked("lay", x.lay(0, 0, 6)), 8);
        due("average", asked("average", x.average(0)), 7);
        due("told", asked("told", x.told(0, 0)), 1);
        due("move", asked("move", x.move(0, 2, 1)), 2);
        fill(0, 1);
        due("point", asked("point", x.point(0, 0, 1, false)), 1);
        x.points(0, 3);
        due("points", x.asked(), 3);
        due("board", asked("board", x.board(0, 3, 1)), 14);
        x.in(0, 0, 0, 1);
        due("in", x.asked(), 1);
        x.in(0, -1, 0, 1);
        due("in, not", x.asked(), 0);
        x.told(0, 1);
        x.words(0, 1);
        x.at(0, 1, 0, 0);
        x.alive(0);
        x.net(0, 1);
        due("others leave it", x.asked(), 2);
        begin(40);
        tell(0, "2/a-30");
        fraction("mean", x.mean(0, false), -3, 1);
        x.alive(0);
        found("refused", UNLIKE, () -> x.weighs(0, 0, 0, 0));
        due("upper stays", x.upper(), -3);
        promise = 41;
        tell(0, "2/a-34/c11");
        fraction("mean", x.mean(0, false), -1, 2);
        fraction("mean, y", x.mean(0, true), 5, 4);
        due("lower stays", x.lower(), 4);
    }

    private static void counts() {
        begin(42);
        x.row(0, 0);
        x.row(5, 1);
        x.text(2, 0);
        tell(0, TURNED);
        tell(1, LINE_TWICE);
        tell(2, SQUARE);
        fill(0, 1, 1, 1, 1);
        x.weighed(3, 2, 0);
        x.barred(4, 2, 0);
        x.row(1, 40);
        due("rows", x.count(0), 3);
        due("texts", x.count(1), 2);
        due("shapes", x.count(2), 5);
        due("straight ones", x.count(3), 2);
        x.drop(2);
        x.tear(5);
        due("rows", x.count(0), 2);
        due("shapes", x.count(2), 4);
        due("straight ones", x.count(3), 1);
        bad("what 4", () -> x.count(4));
        bad("what -1", () -> x.count(-1));
    }

    private static void findingsCounted() {
        begin(43);
        found("NOTHING", NOTHING, () -> x.tear(0));
        x.row(0, 0);
        due("stays", x.finding(), NOTHING);
        found("BEYOND", BEYOND, () -> x.lay(0, 0, 0));
        found("NOUGHT", NOUGHT, () -> x.average(0));
        found("SIZE", SIZE, () -> x.row(0, -1));
        tell(0, TURNED);
        found("UNLIKE", UNLIKE, () -> x.alive(0));
        bad("BAD leaves it", () -> x.alive(8));
        due("the latest", x.finding(), UNLIKE);
        begin(44);
        for (int i = 0; i < 7; i++) {
            x.tear(0);
        }
        due("seven", x.findings(1), 7);
        due("none", x.findings(2), 0);
        bad("0", () -> x.findings(0));
        bad("6", () -> x.findings(6));
        bad("lowest", () -> x.findings(LOW));
    }

    private static void digests() {
        begin(45);
        tell(1, "3/b-12/a09");
        fill(2, 7, -1);
        tell(2, "2/a00");
        fill(0, 55);
        x.weighed(3, 2, 0);
        fill(0, 1);
        x.barred(4, 2, 0);
        x.text(3, 2);
        x.put(3, 1, -5);
        long[] all = {-1, 0, 3, 2, 1, -1, 2, 0, 0, 9, 2, 2, 1, 0, 0, 0, 3, 2, 1, 0, 0, 0, 55, 4, 2, 1, 0, 0, 0, 1,
            -1, -1, -1, 1, 1, -1, 2, 7, -1, -1, -1, -1, -1, -1, -1, 2, 32, -5};
        long h = 17;
        for (long v : all) {
            h = 31 * h + v;
        }
        due("digest", x.digest(), h);
        due("digest again", x.digest(), h);
    }
}
