import java.util.ArrayList;
import java.util.Arrays;
import java.util.List;
import java.util.function.IntSupplier;
import java.util.function.IntUnaryOperator;

/** What the tests of the document's sentences share: a sentence names its promise and is tried on objects of its own. */
abstract class Sentences {
    static final int NOTHING = 1, BEYOND = 2, UNLIKE = 3, NOUGHT = 4, SIZE = 5;
    static final int LOW = Integer.MIN_VALUE, HIGH = Integer.MAX_VALUE;
    static final String GASKET = "2/a00/a10/a01";
    static final String SQUARE = "2/a00/a10/a01/a11";
    static final String LINE_TWICE = "2/a00/a10/a20";
    static final String TURNED = "2/a00/b10";
    static final String SIX = "4/a00/a10/a20/a30/a01/a11";

    /** A sentence of the document, and under which promise it is tried. */
    record Quote(int promise, String words) { }

    static final List<Quote> QUOTES = new ArrayList<>();
    static SelfShapes x = new SelfShapes();
    private static Runnable state = () -> { };
    private static int checks = 0;
    private static int checksBefore = 0;
    private static int wrong = 0;

    /** Begins the test of a sentence, on a new object. */
    static void sentence(int promise, String words) {
        endSentence();
        QUOTES.add(new Quote(promise, words));
        given(() -> { });
    }

    static void endSentence() {
        if (!QUOTES.isEmpty() && checks == checksBefore) {
            fail("nothing is tried");
        }
        checksBefore = checks;
    }

    /** A new object, led to a state; each call that is to be refused gets one of its own. */
    static void given(Runnable newState) {
        state = newState;
        anew();
    }

    static void anew() {
        x = usedBefore();
        state.run();
    }

    /** Nothing is there, but each of many(), asked(), upper(), lower() tells what a refused call could lose. */
    private static SelfShapes usedBefore() {
        SelfShapes object = new SelfShapes();
        object.row(5, 2);
        object.lay(5, 0, 3);
        object.ledBack(7, 5);
        object.words(7, 3);
        object.lay(5, 0, 1);
        object.place(7, 5, 0, 2, false);
        object.lay(5, 0, 41);
        object.lay(5, 0, 0);
        object.tear(5);
        object.drop(7);
        return object;
    }

    static void fail(String what) {
        wrong++;
        Quote quote = QUOTES.isEmpty() ? new Quote(0, "") : QUOTES.get(QUOTES.size() - 1);
        System.out.println("promise " + quote.promise + " \"" + quote.words + "\": " + what);
    }

    static void due(String what, long got, long want) {
        checks++;
        if (got != want) {
            fail(what + " answered " + got + ", due is " + want);
        }
    }

    static void holds(String what, boolean right) {
        checks++;
        if (!right) {
            fail(what);
        }
    }

    static int checks() {
        return checks;
    }

    static int wrong() {
        return wrong;
    }

    /** All that a call that is refused leaves as it was, and the findings. */
    static long[] allTold() {
        return new long[] {x.finding(), x.findings(1), x.findings(2), x.findings(3), x.findings(4), x.findings(5),
            x.digest(), x.many(), x.asked(), x.upper(), x.lower(), x.count(0), x.count(1), x.count(2), x.count(3)};
    }

    private static void refused(int number, int answer, int finding, IntSupplier call) {
        anew();
        long[] before = allTold();
        due("refused call " + number, call.getAsInt(), answer);
        if (finding > 0) {
            before[0] = finding;
            before[finding]++;
        }
        long[] behind = allTold();
        holds("refused call " + number + " left " + Arrays.toString(behind) + ", due is " + Arrays.toString(before),
                Arrays.equals(before, behind));
    }

    private static void allRefused(int answer, int finding, IntSupplier... calls) {
        for (int i = 0; i < calls.length; i++) {
            refused(i + 1, answer, finding, calls[i]);
        }
    }

    static void bad(IntSupplier... calls) {
        allRefused(SelfShapes.BAD, 0, calls);
    }

    static void found(int finding, IntSupplier... calls) {
        allRefused(SelfShapes.FINDING, finding, calls);
    }

    static void notNow(IntSupplier... calls) {
        allRefused(SelfShapes.STATE, 0, calls);
    }

    static void spent(IntSupplier... calls) {
        allRefused(SelfShapes.SPENT, 0, calls);
    }

    /** A number from least to greatest is one, whatever else there is to say; all others are BAD. */
    static void badOutside(int least, int greatest, IntUnaryOperator call) {
        for (int number : new int[] {least - 1, greatest + 1, LOW, HIGH}) {
            bad(() -> call.applyAsInt(number));
        }
        for (int number = least; number <= greatest; number++) {
            anew();
            holds("with " + number + " is not BAD", call.applyAsInt(number) != SelfShapes.BAD);
        }
    }

    static void write(int t, String signs) {
        x.text(t, signs.length());
        for (int i = 0; i < signs.length(); i++) {
            x.put(t, i, signs.charAt(i));
        }
    }

    /** A shape by text 3. */
    static int tell(int s, String signs) {
        write(3, signs);
        return x.shape(s, 3);
    }

    static void fill(int r, int... numbers) {
        x.row(r, numbers.length);
        for (int i = 0; i < numbers.length; i++) {
            x.lay(r, i, numbers[i]);
        }
    }

    /** A row of one number, again and again, in few calls. */
    static void fillAlike(int r, int n, int v) {
        x.row(r, n);
        x.lay(r, 0, v);
        for (int done = 1; done < n; done *= 2) {
            x.copy(r, 0, r, done, Math.min(done, n - done));
        }
    }

    /** Looks at a row's places, and leaves them as they are. */
    static void rowIs(String what, int r, int... numbers) {
        for (int i = 0; i < numbers.length; i++) {
            due(what + ": place " + i, x.lay(r, i, numbers[i]), 1);
            due(what + ": place " + i + " was", x.asked(), numbers[i]);
        }
        due(what + ": no more places", x.lay(r, numbers.length, 0), SelfShapes.FINDING);
    }

    static void asks(String what, int answer, int asked) {
        due(what, answer, 1);
        due(what + ": asked()", x.asked(), asked);
    }

    static void tellsMany(String what, int answer, long many) {
        due(what, answer, 1);
        due(what + ": many()", x.many(), many);
    }

    static void fraction(String what, int answer, long up, long low) {
        due(what, answer, 1);
        due(what + ": upper()", x.upper(), up);
        due(what + ": lower()", x.lower(), low);
    }

    /** One shape of each kind: 0 turned, 1 straight, 2 apart, 3 weighed, 4 barred (both of 2), each of three moves. */
    static void oneOfEachKind() {
        tell(0, "2/a00/a10/b01");
        tell(1, LINE_TWICE);
        tell(2, GASKET);
        fill(5, 2, 3, 5);
        x.weighed(3, 2, 5);
        x.barred(4, 2, 5);
    }
}
