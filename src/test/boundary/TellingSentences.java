import java.math.BigInteger;
import java.util.ArrayList;
import java.util.List;

/** Promises 38 to 45: what is told behind the calls, and what refused calls leave. */
final class TellingSentences extends Sentences {
    static void all() {
        many();
        asked();
        upperAndLower();
        count();
        finding();
        findings();
        orderOfRefusals();
        nothingChanges();
        digest();
        fullDigest();
    }

    private static void many() {
        sentence(38, "0 before");
        x = new SelfShapes();
        due("new", x.many(), 0);
        oneOfEachKind();
        x.points(2, 3);
        x.alive(2);
        x.holes(2, 2);
        x.mean(2, true);
        x.words(7, 0);
        x.words(2, 7);
        due("behind calls that do not tell it, and refused ones", x.many(), 0);
        sentence(38, "What the latest words(), net(), rings(), rim(), weighs(), line() that was not refused told");
        given(() -> oneOfEachKind());
        x.words(2, 6);
        due("words", x.many(), 729);
        x.net(2, 3);
        due("net", x.many(), 1);
        x.rim(2, 0);
        due("rim", x.many(), 6);
        x.rings(2, 3);
        due("rings", x.many(), 0);
        x.weighs(3, 1, 1, 0);
        due("weighs", x.many(), 3);
        x.line(2, 1, 0);
        due("line", x.many(), 3);
        x.weighs(3, 1, 9, 9);
        due("weighs, 0", x.many(), 0);
        x.words(2, 0);
        due("words of step 0", x.many(), 1);
        x.line(2, 3, 0);
        long before = x.many();
        due("a whole line", before, 255);
        x.words(2, 7);
        x.net(2, 4);
        x.rings(0, 1);
        x.rim(3, 1);
        x.weighs(2, 1, 0, 0);
        x.line(2, 1, 2);
        due("refused ones leave it", x.many(), 255);
        x.points(2, 2);
        x.at(2, 1, 0, 0);
        x.board(2, 1, 1);
        x.broken(2);
        x.hangs(2);
        x.holes(2, 1);
        x.same(2, 2, 1);
        due("others leave it", x.many(), 255);
    }

    private static void asked() {
        sentence(39, "0 before");
        x = new SelfShapes();
        due("new", x.asked(), 0);
        write(3, GASKET);
        x.shape(2, 3);
        x.words(2, 3);
        x.alive(2);
        x.holes(2, 2);
        x.mean(2, true);
        x.same(2, 7, 0);
        x.told(7, 0);
        due("behind calls that do not tell it, and refused ones", x.asked(), 0);
        sentence(39, "What the latest lay(), average(), told(), move(), point(), points(), board(), in(), same() (1) "
                + "that was not refused told");
        given(() -> {
            oneOfEachKind();
            fill(0, 1, 2, 0);
        });
        asks("lay", x.lay(0, 2, 9), 0);
        asks("average", x.average(0), 4);
        asks("told", x.told(3, 0), 3);
        asks("move", x.move(1, 2, 1), 2);
        asks("point", x.point(1, 0, 2, false), 4);
        due("points", x.points(1, 3), 15);
        due("points: asked()", x.asked(), 3);
        asks("board", x.board(1, 3, 1), 14);
        due("in", x.in(1, 0, 0, 1), 1);
        due("in: asked()", x.asked(), 1);
        asks("told ahead of in", x.told(3, 0), 3);
        due("not in", x.in(1, 0, 5, 1), 0);
        due("not in: asked()", x.asked(), 0);
        asks("told ahead of same", x.told(3, 0), 3);
        due("not the same", x.same(1, 2, 1), 0);
        due("not the same: asked() stays", x.asked(), 3);
        due("the same", x.same(1, 1, 1), 1);
        due("the same: asked()", x.asked(), 0);
        asks("told ahead of refused ones", x.told(3, 0), 3);
        x.lay(0, 3, 0);
        x.average(7);
        x.told(7, 0);
        x.move(1, 3, 0);
        x.point(1, 0, 4, true);
        x.points(1, 6);
        x.board(7, 0, 0);
        x.in(3, 0, 0, 1);
        x.same(1, 7, 0);
        due("refused ones leave it", x.asked(), 3);
        x.words(1, 3);
        x.at(1, 1, 0, 0);
        x.alive(1);
        x.net(1, 1);
        x.holes(1, 1);
        x.mean(1, true);
        x.mark(1, 1);
        due("others leave it", x.asked(), 3);
    }

    private static void upperAndLower() {
        sentence(40, "0 before");
        x = new SelfShapes();
        due("new", x.upper(), 0);
        tell(0, "2/a-30");
        x.mean(7, true);
        x.place(0, 0, 0, 1, true);
        due("behind refused ones", x.upper(), 0);
        sentence(40, "The upper number of the fraction that was told last");
        tell(0, "2/a-30/a09");
        fill(0, 0, 1);
        x.mean(0, false);
        due("mean, x", x.upper(), -3);
        x.place(0, 0, 0, 1, false);
        due("place, x", x.upper(), -3);
        x.place(0, 0, 0, 1, true);
        due("place, y", x.upper(), 0);
        x.mean(0, true);
        due("mean, y", x.upper(), 9);
        x.mean(7, true);
        x.place(0, 0, 0, 3, true);
        x.place(0, 0, 0, 0, true);
        x.words(0, 3);
        x.told(0, 1);
        due("refused ones and others leave it", x.upper(), 9);
        sentence(41, "1 before");
        x = new SelfShapes();
        due("new", x.lower(), 1);
        tell(0, "2/a-30");
        x.mean(7, true);
        x.place(0, 0, 0, 1, true);
        due("behind refused ones", x.lower(), 1);
        sentence(41, "Its lower number");
        tell(0, "2/a-30/a09");
        fill(0, 0, 1);
        x.mean(0, false);
        due("mean, x", x.lower(), 2);
        x.place(0, 0, 0, 2, true);
        due("place, y", x.lower(), 1);
        x.mean(0, true);
        due("mean, y", x.lower(), 2);
        x.mean(7, true);
        x.place(0, 0, 0, 3, true);
        x.words(0, 3);
        due("refused ones and others leave it", x.lower(), 2);
    }

    private static void count() {
        sentence(42, "0 ROWS, 1 TEXTS, 2 SHAPES, 3 STRAIGHT ones (APART, too) that are there.");
        for (int r = 0; r <= 5; r++) {
            due("rows", x.count(0), r);
            x.row(r, 0);
            x.row(r, 40);
        }
        due("all rows", x.count(0), 6);
        for (int t = 0; t <= 3; t++) {
            due("texts", x.count(1), t);
            x.text(t, 0);
            x.text(t, 60);
        }
        due("all texts", x.count(1), 4);
        due("no shapes", x.count(2), 0);
        oneOfEachKind();
        due("shapes of each kind", x.count(2), 5);
        due("straight ones of each kind", x.count(3), 2);
        fill(0, 1, 0);
        for (int s = 0; s <= 7; s++) {
            x.ledBack(s, 0);
        }
        due("all shapes", x.count(2), 8);
        due("all of them straight", x.count(3), 8);
        for (int s = 0; s <= 7; s++) {
            x.drop(s);
            due("shapes left", x.count(2), 7 - s);
            due("straight ones left", x.count(3), 7 - s);
        }
        sentence(42, "BAD");
        given(() -> oneOfEachKind());
        badOutside(0, 3, what -> x.count(what));
    }

    private static void finding() {
        sentence(43, "The latest FINDING (0 before any).");
        x = new SelfShapes();
        due("before any", x.finding(), 0);
        x.row(6, 0);
        x.text(0, 0);
        x.shape(0, 0);
        due("BAD and STATE are none", x.finding(), 0);
        x.tear(0);
        due("NOTHING", x.finding(), NOTHING);
        x.row(0, 0);
        due("it stays", x.finding(), NOTHING);
        x.lay(0, 0, 0);
        due("BEYOND", x.finding(), BEYOND);
        tell(0, "4/a-9-9/b99");
        x.alive(0);
        due("UNLIKE", x.finding(), UNLIKE);
        x.average(0);
        due("NOUGHT", x.finding(), NOUGHT);
        x.row(0, -1);
        due("SIZE", x.finding(), SIZE);
        due("SPENT is none", x.holes(0, 3), SelfShapes.SPENT);
        due("SPENT leaves it", x.finding(), SIZE);
        x.findings(6);
        due("BAD leaves it", x.finding(), SIZE);
        sentence(43, "FINDINGS: 1 NOTHING (a ROW, a TEXT, a SHAPE that is missing), 2 BEYOND (a place that there is not), "
                + "3 UNLIKE (a SHAPE of another KIND, or not as due; a number that is none), 4 NOUGHT (shared among "
                + "none), 5 SIZE (fewer than none; not as many as due).");
        given(() -> {
            oneOfEachKind();
            fill(0, 9, 9);
            x.row(1, 0);
        });
        found(NOTHING, () -> x.tear(4), () -> x.fault(0), () -> x.drop(7));
        found(BEYOND, () -> x.lay(0, 2, 0), () -> x.put(3, 60, 0), () -> x.move(0, 3, 0));
        found(UNLIKE, () -> x.alive(0), () -> x.mark(2, 3), () -> x.point(2, 0, 1, true));
        found(NOUGHT, () -> x.average(1));
        found(SIZE, () -> x.row(0, -1), () -> x.weighed(0, 0, 0), () -> x.point(2, 0, 3, true));
    }

    private static void findings() {
        sentence(44, "How often a FINDING (1 .. 5) was answered.");
        given(() -> {
            oneOfEachKind();
            x.row(1, 0);
        });
        for (int n = 1; n <= 20; n++) {
            x.tear(0);
            x.lay(1, 0, 0);
            x.alive(0);
            x.average(1);
            x.row(1, -1);
            x.row(1, 41);
            for (int f = 1; f <= 5; f++) {
                due("finding " + f + ", time " + n, x.findings(f), n);
            }
        }
        sentence(44, "BAD");
        given(() -> oneOfEachKind());
        badOutside(1, 5, f -> x.findings(f));
    }

    private static void orderOfRefusals() {
        sentence(43, "Refused is, the first of these that fits, in this order: BAD -1 (a number that is none, or not as "
                + "told), FULL -2, STATE -4 (not now), SPENT -6 (more than told), FINDING -3 (finding() tells which), "
                + "unless a call says so otherwise.");
        int[] values = {SelfShapes.BAD, SelfShapes.FULL, SelfShapes.STATE, SelfShapes.SPENT, SelfShapes.FINDING};
        int[] due = {-1, -2, -4, -6, -3};
        for (int i = 0; i < due.length; i++) {
            due("value " + i, values[i], due[i]);
        }
        given(() -> {
            oneOfEachKind();
            write(0, "2/");
            tell(5, "4/a-9-9/a99");
        });
        bad(() -> x.shape(8, 0), () -> x.shape(8, 2), () -> x.holes(5, 4), () -> x.line(8, 3, 0),
                () -> x.in(0, 0, 0, 0), () -> x.told(7, 3), () -> x.mark(0, 0), () -> x.same(7, 8, 0));
        notNow(() -> x.shape(0, 0));
        spent(() -> x.holes(5, 3), () -> x.line(5, 3, 0));
        found(BEYOND, () -> x.line(5, 3, 379));
        sentence(24, "NONE -9.");
        due("NONE", SelfShapes.NONE, -9);
        tell(0, GASKET);
        due("no fault", x.fault(3), -9);
        due("not broken", x.broken(0), -9);
    }

    private static void nothingChanges() {
        sentence(43, "What is refused changes nothing but finding(), findings().");
        given(() -> {
            oneOfEachKind();
            fill(0, 9, 9, 9);
            fillAlike(1, 40, LOW);
            x.row(2, 0);
            fill(3, 1, 2, 100);
            write(0, "2/a00/");
            tell(5, "4/a-9-9/a99");
        });
        found(UNLIKE, () -> x.barred(2, 2, 0), () -> x.barred(4, 3, 0), () -> x.ledBack(4, 0), () -> x.weighed(3, 3, 3),
                () -> x.mean(4, true), () -> x.point(2, 0, 3, true), () -> x.place(2, 0, 1, 2, true));
        found(SIZE, () -> x.weighed(4, 2, 1), () -> x.barred(3, 2, 2), () -> x.ledBack(2, 1), () -> x.text(0, LOW));
        found(BEYOND, () -> x.copy(0, 0, 1, 38, 3), () -> x.copy(1, 0, 0, 0, 40), () -> x.lay(2, 0, 5));
        found(NOUGHT, () -> x.average(2));
        found(NOTHING, () -> x.copy(0, 0, 4, 0, 0), () -> x.weighed(2, 7, 0), () -> x.shape(2, 1));
        notNow(() -> x.shape(2, 0), () -> x.shape(3, 0), () -> x.shape(4, 0), () -> x.shape(7, 0));
        spent(() -> x.holes(5, 3), () -> x.line(5, 3, 0));
    }

    private static long digestOf(List<Long> all) {
        BigInteger h = BigInteger.valueOf(17);
        for (long v : all) {
            h = h.multiply(BigInteger.valueOf(31)).add(BigInteger.valueOf(v));
        }
        return h.longValue();
    }

    private static void add(List<Long> all, long... numbers) {
        for (long number : numbers) {
            all.add(number);
        }
    }

    private static void digest() {
        sentence(45, "h = 17; then h = 31 h + v for each v: of each SHAPE (-1 once: missing) its KIND, BASE, m, "
                + "of each MOVE TURN, x, y, of a WEIGHED one its weight, of a BARRED one its set; "
                + "of each ROW its size (-1: missing) and places, of each TEXT likewise.");
        List<Long> all = new ArrayList<>();
        for (int i = 0; i < 18; i++) {
            add(all, -1);
        }
        x = new SelfShapes();
        due("nothing is there", x.digest(), digestOf(all));
        tell(1, "3/b-12/h09");
        fill(0, 55, 99);
        x.weighed(3, 1, 0);
        fill(0, 3, 0);
        x.barred(4, 1, 0);
        fill(5, LOW, HIGH);
        x.row(2, 0);
        x.text(3, 2);
        x.put(3, 1, -5);
        x.text(1, 0);
        all.clear();
        add(all, -1, 0, 3, 2, 1, -1, 2, 7, 0, 9, -1, 3, 3, 2, 1, -1, 2, 55, 7, 0, 9, 99);
        add(all, 4, 3, 2, 1, -1, 2, 3, 7, 0, 9, 0, -1, -1, -1);
        add(all, 2, 3, 0, -1, 0, -1, -1, 2, LOW, HIGH);
        add(all, -1, 0, -1, 2, 32, -5);
        due("some are there", x.digest(), digestOf(all));
        due("again", x.digest(), digestOf(all));
        due("finding() stays", x.finding(), 0);
    }

    private static void fullDigest() {
        x = new SelfShapes();
        List<Long> all = new ArrayList<>();
        tell(0, "4/a-9-9/a99/a-99/a9-9/a00/a01");
        int[][] shifts = {{-9, -9}, {9, 9}, {-9, 9}, {9, -9}, {0, 0}, {0, 1}};
        for (int s = 0; s <= 7; s++) {
            int kind = s == 0 ? 2 : s % 2 == 1 ? 3 : 4;
            fillAlike(0, 6, s == 7 ? 99 : s == 6 ? 63 : s);
            if (kind == 3) {
                x.weighed(s, 0, 0);
            } else if (kind == 4) {
                x.barred(s, 0, 0);
            }
            add(all, kind, 4, 6);
            for (int[] shift : shifts) {
                add(all, 0, shift[0], shift[1]);
                if (kind != 2) {
                    add(all, s == 7 ? 99 : s == 6 ? 63 : s);
                }
            }
        }
        for (int r = 0; r <= 5; r++) {
            int number = r % 2 == 0 ? LOW + r : HIGH - r;
            fillAlike(r, 40, number);
            add(all, 40);
            for (int i = 0; i < 40; i++) {
                add(all, number);
            }
        }
        for (int t = 0; t <= 3; t++) {
            x.text(t, 60);
            x.put(t, 59, 127 + t);
            add(all, 60);
            for (int i = 0; i < 59; i++) {
                add(all, 32);
            }
            add(all, (byte) (127 + t));
        }
        due("all is there, and full", x.digest(), digestOf(all));
    }
}
