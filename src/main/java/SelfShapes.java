import java.util.Arrays;

/** Shapes that hold themselves, told by moves on a plane of whole numbers. */
public final class SelfShapes {
    public static final int BAD = -1, FULL = -2, FINDING = -3, STATE = -4, SPENT = -6, NONE = -9;

    private static final int NOTHING = 1, BEYOND = 2, UNLIKE = 3, NOUGHT = 4, SIZE = 5;
    private static final int PLAIN = 0, STRAIGHT = 1, APART = 2, WEIGHED = 3, BARRED = 4;
    private static final int MISSING = -1;
    private static final int ROWS = 6, ROW_ROOM = 40, TEXTS = 4, TEXT_ROOM = 60, BLANK = 32;
    private static final int SHAPES = 8, MOST_MOVES = 6, MOST_WEIGHT = 99;
    private static final int LAST_STEP = 5, MOST_WORDS = 7776, MOST_WORDS_OF_FOUR = 1296;
    /** Far above what any loop that is bound by it can need. */
    private static final int PATIENCE = 1000000;

    /** A turn leads (x, y) to (XX x + XY y, YX x + YY y). */
    private static final int[] TURN_XX = {1, 0, -1, 0, 0, -1, 0, 1};
    private static final int[] TURN_XY = {0, -1, 0, 1, 1, 0, -1, 0};
    private static final int[] TURN_YX = {0, 1, 0, -1, 1, 0, -1, 0};
    private static final int[] TURN_YY = {1, 0, -1, 0, 0, 1, 0, -1};

    private final Row[] rows = new Row[ROWS];
    private final Row[] texts = new Row[TEXTS];
    private final Shape[] shapes = new Shape[SHAPES];
    private final Shape draft = new Shape();
    private final Reader reader = new Reader();
    private final Affine head = new Affine();
    private final Affine round = new Affine();
    private final Cells cells = new Cells(MOST_WORDS, 16384);
    private final Cells others = new Cells(MOST_WORDS_OF_FOUR, 4096);
    private final Vectors vectors = new Vectors();
    private final Net web = new Net(cells, vectors);
    private final Walk walk = new Walk(cells);
    private final Picture picture = new Picture();
    private final int[] found = new int[SIZE + 1];
    private int latestFinding = 0;
    private int latestAsked = 0;
    private long latestMany = 0;
    private long latestUpper = 0;
    private long latestLower = 1;

    public SelfShapes() {
        for (int r = 0; r < ROWS; r++) {
            rows[r] = new Row(ROW_ROOM);
        }
        for (int t = 0; t < TEXTS; t++) {
            texts[t] = new Row(TEXT_ROOM);
        }
        for (int s = 0; s < SHAPES; s++) {
            shapes[s] = new Shape();
        }
    }

    // ---- 1 rows, texts, shapes

    public int row(int r, int n) {
        if (!isRow(r) || n > ROW_ROOM) {
            return BAD;
        }
        if (n < 0) {
            return refuse(SIZE);
        }
        rows[r].open(n, 0);
        return n;
    }

    public int lay(int r, int i, int v) {
        if (!isRow(r)) {
            return BAD;
        }
        if (rows[r].isMissing()) {
            return refuse(NOTHING);
        }
        if (!rows[r].hasPlace(i)) {
            return refuse(BEYOND);
        }
        latestAsked = rows[r].places[i];
        rows[r].places[i] = v;
        return 1;
    }

    public int tear(int r) {
        if (!isRow(r)) {
            return BAD;
        }
        if (rows[r].isMissing()) {
            return refuse(NOTHING);
        }
        rows[r].size = MISSING;
        return 1;
    }

    public int copy(int r, int i, int to, int j, int n) {
        if (!isRow(r) || !isRow(to)) {
            return BAD;
        }
        if (n < 0) {
            return refuse(SIZE);
        }
        if (rows[r].isMissing() || rows[to].isMissing()) {
            return refuse(NOTHING);
        }
        if (!rows[r].hasPlaces(i, n) || !rows[to].hasPlaces(j, n)) {
            return refuse(BEYOND);
        }
        System.arraycopy(rows[r].places, i, rows[to].places, j, n);
        return 1;
    }

    public int average(int r) {
        if (!isRow(r)) {
            return BAD;
        }
        if (rows[r].isMissing()) {
            return refuse(NOTHING);
        }
        if (rows[r].size == 0) {
            return refuse(NOUGHT);
        }
        latestAsked = (int) (rows[r].sum() / rows[r].size);
        return 1;
    }

    public int text(int t, int n) {
        if (!isText(t) || n > TEXT_ROOM) {
            return BAD;
        }
        if (n < 0) {
            return refuse(SIZE);
        }
        texts[t].open(n, BLANK);
        return n;
    }

    public int put(int t, int i, int v) {
        if (!isText(t)) {
            return BAD;
        }
        if (texts[t].isMissing()) {
            return refuse(NOTHING);
        }
        if (!texts[t].hasPlace(i)) {
            return refuse(BEYOND);
        }
        int before = texts[t].places[i];
        texts[t].places[i] = (byte) v;
        return before + 1000;
    }

    public int fault(int t) {
        if (!isText(t)) {
            return BAD;
        }
        if (texts[t].isMissing()) {
            return refuse(NOTHING);
        }
        return reader.read(texts[t], draft);
    }

    public int shape(int s, int t) {
        if (!isShape(s) || !isText(t)) {
            return BAD;
        }
        if (texts[t].isMissing()) {
            return refuse(NOTHING);
        }
        if (reader.read(texts[t], draft) != NONE) {
            return STATE;
        }
        return keepDraft(s);
    }

    public int weighed(int s, int of, int r) {
        int refused = toldByRow(s, of, r);
        if (refused != 0) {
            return refused;
        }
        Row weights = rows[r];
        for (int i = 0; i < weights.size; i++) {
            if (weights.places[i] < 1 || weights.places[i] > MOST_WEIGHT) {
                return refuse(UNLIKE);
            }
        }
        shapes[s].takeMoves(shapes[of]);
        shapes[s].takeExtras(WEIGHED, weights);
        return shapes[s].weightOfAll();
    }

    public int barred(int s, int of, int r) {
        int refused = toldByRow(s, of, r);
        if (refused != 0) {
            return refused;
        }
        Row sets = rows[r];
        for (int i = 0; i < sets.size; i++) {
            if (sets.places[i] < 0 || sets.places[i] >= 1 << shapes[of].moves) {
                return refuse(UNLIKE);
            }
        }
        shapes[s].takeMoves(shapes[of]);
        shapes[s].takeExtras(BARRED, sets);
        return shapes[s].barredPairs();
    }

    public int ledBack(int s, int r) {
        if (!isShape(s) || !isRow(r)) {
            return BAD;
        }
        if (rows[r].isMissing()) {
            return refuse(NOTHING);
        }
        int height = rows[r].size;
        if (height < 2 || height > 4) {
            return refuse(SIZE);
        }
        int bits = 0;
        for (int y = 0; y < height; y++) {
            int bitsOfLine = rows[r].places[y];
            if (bitsOfLine < 0 || bitsOfLine >= 1 << height) {
                return refuse(UNLIKE);
            }
            bits += Integer.bitCount(bitsOfLine);
        }
        if (bits == 0 || bits > MOST_MOVES) {
            return refuse(UNLIKE);
        }
        draft.leadBack(rows[r]);
        return keepDraft(s);
    }

    public int drop(int s) {
        int refused = shapeRefusal(s, true);
        if (refused != 0) {
            return refused;
        }
        shapes[s].kind = MISSING;
        return 1;
    }

    public int told(int s, int what) {
        int refused = shapeRefusal(s, what >= 0 && what <= 2);
        if (refused != 0) {
            return refused;
        }
        Shape shape = shapes[s];
        latestAsked = what == 0 ? shape.kind : what == 1 ? shape.base : shape.moves;
        return 1;
    }

    public int move(int s, int i, int what) {
        int refused = shapeRefusal(s, what >= 0 && what <= 2);
        if (refused != 0) {
            return refused;
        }
        Shape shape = shapes[s];
        if (!shape.hasMove(i)) {
            return refuse(BEYOND);
        }
        latestAsked = what == 0 ? shape.turns[i] : what == 1 ? shape.shiftX[i] : shape.shiftY[i];
        return 1;
    }

    public int mark(int s, int kind) {
        int refused = shapeRefusal(s, kind >= STRAIGHT && kind <= BARRED);
        if (refused != 0) {
            return refused;
        }
        Shape shape = shapes[s];
        if (kind == STRAIGHT && shape.isStraight()) {
            return shape.reach();
        }
        if (kind != shape.kind) {
            return refuse(UNLIKE);
        }
        return kind == APART ? shape.moves : kind == WEIGHED ? shape.weightOfAll() : shape.barredPairs();
    }

    // ---- 2 words, places

    public int point(int s, int r, int k, boolean y) {
        int refused = wordRefusal(s, r, k, k >= 0 && k <= 8);
        if (refused != 0) {
            return refused;
        }
        head.follow(shapes[s], rows[r], 0, k);
        latestAsked = (int) (y ? head.py : head.px);
        return 1;
    }

    public int place(int s, int r, int k, int n, boolean y) {
        boolean asTold = k >= 0 && k <= 6 && n >= 1 && n <= 6;
        int refused = wordRefusal(s, r, asTold ? k + n : 0, asTold);
        if (refused != 0) {
            return refused;
        }
        head.follow(shapes[s], rows[r], 0, k);
        round.follow(shapes[s], rows[r], k, n);
        long by = round.divisor();
        long x = round.fixedX();
        long up = y ? head.yx * x + head.yy * round.fixedY() + head.py * by
                : head.xx * x + head.xy * round.fixedY() + head.px * by;
        tellFraction(up, head.scale * by);
        return 1;
    }

    public int words(int s, int k) {
        int refused = shapeRefusal(s, k >= 0 && k <= 6);
        if (refused != 0) {
            return refused;
        }
        latestMany = shapes[s].countWords(k);
        return 1;
    }

    public int points(int s, int k) {
        int refused = shapeRefusal(s, isStep(k, LAST_STEP));
        if (refused != 0) {
            return refused;
        }
        cells.gather(shapes[s], k);
        latestAsked = cells.most;
        return cells.size;
    }

    public int at(int s, int k, int x, int y) {
        int refused = shapeRefusal(s, isStep(k, LAST_STEP));
        if (refused != 0) {
            return refused;
        }
        cells.gather(shapes[s], k);
        int i = cells.indexOf(x, y);
        return i < 0 ? 0 : cells.times[i];
    }

    public int board(int s, int k, int what) {
        int refused = shapeRefusal(s, isStep(k, LAST_STEP) && what >= 0 && what <= 3);
        if (refused != 0) {
            return refused;
        }
        cells.gather(shapes[s], k);
        if (cells.size == 0) {
            return refuse(NOUGHT);
        }
        latestAsked = what == 0 ? cells.leastX : what == 1 ? cells.greatestX
                : what == 2 ? cells.leastY : cells.greatestY;
        return 1;
    }

    public int broken(int s) {
        int refused = shapeRefusal(s, true);
        if (refused != 0) {
            return refused;
        }
        int claimed = 1;
        for (int k = 1; k <= LAST_STEP; k++) {
            claimed *= shapes[s].moves;
            cells.gather(shapes[s], k);
            if (cells.size != claimed) {
                return k;
            }
        }
        return NONE;
    }

    // ---- 3 neighbours

    public int alive(int s) {
        int refused = straightRefusal(s, true);
        if (refused != 0) {
            return refused;
        }
        vectors.look(shapes[s]);
        return vectors.countLiving();
    }

    public int meets(int s, int x, int y) {
        int refused = straightRefusal(s, true);
        if (refused != 0) {
            return refused;
        }
        vectors.look(shapes[s]);
        return vectors.livingAt(x, y) >= 0 ? 1 : 0;
    }

    public int beside(int s, int i) {
        int refused = straightRefusal(s, true);
        if (refused != 0) {
            return refused;
        }
        if (!shapes[s].hasMove(i)) {
            return refuse(BEYOND);
        }
        vectors.look(shapes[s]);
        return vectors.meeting(shapes[s], i);
    }

    public int hangs(int s) {
        int refused = straightRefusal(s, true);
        if (refused != 0) {
            return refused;
        }
        vectors.look(shapes[s]);
        return vectors.joinAll(shapes[s]) ? 1 : 0;
    }

    public int net(int s, int k) {
        int refused = straightRefusal(s, isStep(k, 3));
        if (refused != 0) {
            return refused;
        }
        weave(s, k);
        latestMany = web.parts;
        return web.joints;
    }

    public int rings(int s, int k) {
        int refused = straightRefusal(s, isStep(k, 3));
        if (refused != 0) {
            return refused;
        }
        weave(s, k);
        latestMany = web.cuts;
        return web.joints - cells.size + web.parts;
    }

    public int in(int s, int x, int y, int q) {
        boolean asTold = x >= -200 && x <= 200 && y >= -200 && y <= 200 && q >= 1 && q <= 12;
        int refused = straightRefusal(s, asTold);
        if (refused != 0) {
            return refused;
        }
        walk.begin(shapes[s], q);
        if (!walk.reachAll(x, y)) {
            return SPENT;
        }
        latestAsked = walk.settle();
        return latestAsked > 0 ? 1 : 0;
    }

    public int rim(int s, int k) {
        int refused = straightRefusal(s, k >= 0 && k <= 6);
        if (refused != 0) {
            return refused;
        }
        vectors.look(shapes[s]);
        latestMany = vectors.countWays(k);
        return 1;
    }

    // ---- 4 weights, pictures

    public int mean(int s, boolean y) {
        int refused = shapeRefusal(s, true);
        if (refused != 0) {
            return refused;
        }
        if (shapes[s].kind == BARRED) {
            return refuse(UNLIKE);
        }
        round.blend(shapes[s]);
        tellFraction(y ? round.fixedY() : round.fixedX(), round.divisor());
        return 1;
    }

    public int weighs(int s, int k, int x, int y) {
        int refused = shapeRefusal(s, isStep(k, LAST_STEP));
        if (refused != 0) {
            return refused;
        }
        if (shapes[s].kind != WEIGHED) {
            return refuse(UNLIKE);
        }
        latestMany = shapes[s].weightAt(k, x, y);
        return 1;
    }

    public int holes(int s, int k) {
        int refused = shapeRefusal(s, isStep(k, 3));
        if (refused != 0) {
            return refused;
        }
        cells.gather(shapes[s], k);
        if (cells.size == 0) {
            return 0;
        }
        if (!picture.draw(cells)) {
            return SPENT;
        }
        return picture.countHoles();
    }

    public int line(int s, int k, int y) {
        int refused = shapeRefusal(s, isStep(k, 3));
        if (refused != 0) {
            return refused;
        }
        cells.gather(shapes[s], k);
        if (cells.size == 0) {
            return refuse(NOUGHT);
        }
        if (y < 0 || y > cells.greatestY - cells.leastY) {
            return refuse(BEYOND);
        }
        if (cells.greatestX - cells.leastX >= 60) {
            return SPENT;
        }
        latestMany = cells.bitsOfLine(y);
        return Long.bitCount(latestMany);
    }

    public int same(int s, int t, int k) {
        if (!isShape(s) || !isShape(t) || !isStep(k, 4)) {
            return BAD;
        }
        if (shapes[s].isMissing() || shapes[t].isMissing()) {
            return refuse(NOTHING);
        }
        cells.gather(shapes[s], k);
        others.gather(shapes[t], k);
        if (cells.size != others.size) {
            return 0;
        }
        if (cells.size == 0) {
            latestAsked = 0;
            return 1;
        }
        int x = others.leastX - cells.leastX;
        int y = others.leastY - cells.leastY;
        if (!cells.allMovedTo(others, x, y)) {
            return 0;
        }
        latestAsked = x;
        return 1;
    }

    // ---- 5 what is told

    public long many() {
        return latestMany;
    }

    public int asked() {
        return latestAsked;
    }

    public long upper() {
        return latestUpper;
    }

    public long lower() {
        return latestLower;
    }

    public int count(int what) {
        if (what < 0 || what > 3) {
            return BAD;
        }
        if (what == 0) {
            return countThere(rows);
        }
        if (what == 1) {
            return countThere(texts);
        }
        int there = 0;
        for (int s = 0; s < SHAPES; s++) {
            if (what == 2 ? !shapes[s].isMissing() : shapes[s].isStraight()) {
                there++;
            }
        }
        return there;
    }

    public int finding() {
        return latestFinding;
    }

    public int findings(int f) {
        return f < 1 || f > SIZE ? BAD : found[f];
    }

    public long digest() {
        long h = 17;
        for (int s = 0; s < SHAPES; s++) {
            h = shapes[s].digestOnto(h);
        }
        for (int r = 0; r < ROWS; r++) {
            h = rows[r].digestOnto(h);
        }
        for (int t = 0; t < TEXTS; t++) {
            h = texts[t].digestOnto(h);
        }
        return h;
    }

    // ---- what several calls share

    private static boolean isRow(int r) {
        return r >= 0 && r < ROWS;
    }

    private static boolean isText(int t) {
        return t >= 0 && t < TEXTS;
    }

    private static boolean isShape(int s) {
        return s >= 0 && s < SHAPES;
    }

    private static boolean isStep(int k, int last) {
        return k >= 0 && k <= last;
    }

    private int refuse(int f) {
        latestFinding = f;
        found[f]++;
        return FINDING;
    }

    /** 0 if a shape is there and the other numbers are as told, else how it is refused. */
    private int shapeRefusal(int s, boolean asTold) {
        if (!isShape(s) || !asTold) {
            return BAD;
        }
        return shapes[s].isMissing() ? refuse(NOTHING) : 0;
    }

    private int straightRefusal(int s, boolean asTold) {
        int refused = shapeRefusal(s, asTold);
        if (refused != 0) {
            return refused;
        }
        return shapes[s].isStraight() ? 0 : refuse(UNLIKE);
    }

    /** Whether the first n numbers of a row can be a word of a shape. */
    private int wordRefusal(int s, int r, int n, boolean asTold) {
        if (!isShape(s) || !isRow(r) || !asTold) {
            return BAD;
        }
        if (shapes[s].isMissing() || rows[r].isMissing()) {
            return refuse(NOTHING);
        }
        if (rows[r].size < n) {
            return refuse(SIZE);
        }
        for (int i = 0; i < n; i++) {
            if (!shapes[s].hasMove(rows[r].places[i])) {
                return refuse(UNLIKE);
            }
        }
        return 0;
    }

    /** What weighed and barred refuse alike. */
    private int toldByRow(int s, int of, int r) {
        if (!isShape(s) || !isShape(of) || !isRow(r)) {
            return BAD;
        }
        if (shapes[of].isMissing() || rows[r].isMissing()) {
            return refuse(NOTHING);
        }
        return rows[r].size == shapes[of].moves ? 0 : refuse(SIZE);
    }

    private int keepDraft(int s) {
        shapes[s].takeMoves(draft);
        shapes[s].kind = kindByMoves(shapes[s]);
        return shapes[s].kind;
    }

    private int kindByMoves(Shape shape) {
        if (!shape.turnsNothing()) {
            return PLAIN;
        }
        if (shape.hasShiftTwice()) {
            return STRAIGHT;
        }
        vectors.look(shape);
        return vectors.comeToOne() ? STRAIGHT : APART;
    }

    private void weave(int s, int k) {
        vectors.look(shapes[s]);
        cells.gather(shapes[s], k);
        web.weave();
    }

    private static int countThere(Row[] all) {
        int there = 0;
        for (int r = 0; r < all.length; r++) {
            if (!all[r].isMissing()) {
                there++;
            }
        }
        return there;
    }

    private void tellFraction(long up, long low) {
        long by = commonDivisor(Math.abs(up), low);
        if (by > 0) {
            latestUpper = up / by;
            latestLower = low / by;
        }
    }

    private static long commonDivisor(long a, long b) {
        for (int step = 0; step < PATIENCE && b != 0; step++) {
            long rest = a % b;
            a = b;
            b = rest;
        }
        return a;
    }

    /** A row of numbers, or of the bytes of a text; its room is made once. */
    private static final class Row {
        final int[] places;
        int size = MISSING;

        Row(int room) {
            places = new int[room];
        }

        void open(int n, int v) {
            Arrays.fill(places, v);
            size = n;
        }

        boolean isMissing() {
            return size < 0;
        }

        boolean hasPlace(int i) {
            return i >= 0 && i < size;
        }

        boolean hasPlaces(int from, int n) {
            return from >= 0 && from <= size && n <= size - from;
        }

        long sum() {
            long sum = 0;
            for (int i = 0; i < size; i++) {
                sum += places[i];
            }
            return sum;
        }

        long digestOnto(long h) {
            h = 31 * h + size;
            for (int i = 0; i < size; i++) {
                h = 31 * h + places[i];
            }
            return h;
        }
    }

    /** A base and its moves, and for each move a weight or the set of those that do not come behind it. */
    private static final class Shape {
        final int[] turns = new int[MOST_MOVES];
        final int[] shiftX = new int[MOST_MOVES];
        final int[] shiftY = new int[MOST_MOVES];
        final int[] extras = new int[MOST_MOVES];
        final long[] ways = new long[MOST_MOVES];
        final long[] longerWays = new long[MOST_MOVES];
        int kind = MISSING;
        int base = 2;
        int moves = 0;

        boolean isMissing() {
            return kind == MISSING;
        }

        boolean isStraight() {
            return kind == STRAIGHT || kind == APART;
        }

        boolean hasMove(int i) {
            return i >= 0 && i < moves;
        }

        void begin(int b) {
            base = b;
            moves = 0;
        }

        void addMove(int turn, int x, int y) {
            if (moves < MOST_MOVES) {
                turns[moves] = turn & 7;
                shiftX[moves] = x;
                shiftY[moves] = y;
                moves++;
            }
        }

        void takeMoves(Shape of) {
            base = of.base;
            moves = of.moves;
            for (int i = 0; i < moves; i++) {
                turns[i] = of.turns[i];
                shiftX[i] = of.shiftX[i];
                shiftY[i] = of.shiftY[i];
            }
        }

        void takeExtras(int newKind, Row row) {
            kind = newKind;
            for (int i = 0; i < moves && i < row.size; i++) {
                extras[i] = row.places[i];
            }
        }

        void leadBack(Row lines) {
            begin(lines.size);
            for (int y = 0; y < lines.size; y++) {
                for (int x = 0; x < lines.size; x++) {
                    if ((lines.places[y] >> x & 1) != 0) {
                        addMove(0, x, y);
                    }
                }
            }
        }

        int weightOf(int i) {
            return kind == WEIGHED ? extras[i] : 1;
        }

        int weightOfAll() {
            int all = 0;
            for (int i = 0; i < moves; i++) {
                all += weightOf(i);
            }
            return all;
        }

        boolean isBarred(int i, int behind) {
            return kind == BARRED && (extras[i] >> behind & 1) != 0;
        }

        int barredPairs() {
            int pairs = 0;
            for (int i = 0; i < moves; i++) {
                pairs += Integer.bitCount(extras[i]);
            }
            return pairs;
        }

        boolean turnsNothing() {
            for (int i = 0; i < moves; i++) {
                if (turns[i] != 0) {
                    return false;
                }
            }
            return true;
        }

        boolean hasShiftTwice() {
            for (int i = 0; i < moves; i++) {
                for (int j = 0; j < i; j++) {
                    if (shiftX[i] == shiftX[j] && shiftY[i] == shiftY[j]) {
                        return true;
                    }
                }
            }
            return false;
        }

        int leastOf(int[] shifts) {
            int least = shifts[0];
            for (int i = 1; i < moves; i++) {
                least = Math.min(least, shifts[i]);
            }
            return least;
        }

        int greatestOf(int[] shifts) {
            int greatest = shifts[0];
            for (int i = 1; i < moves; i++) {
                greatest = Math.max(greatest, shifts[i]);
            }
            return greatest;
        }

        /** The R of the document: no two pieces that differ by more in x or y ever meet. */
        int reach() {
            int wide = greatestOf(shiftX) - leastOf(shiftX);
            int high = greatestOf(shiftY) - leastOf(shiftY);
            return Math.max(wide, high) / Math.max(1, base - 1);
        }

        /** A point with move i ahead of its word; scale is the base to the power of the word's length. */
        int aheadX(int i, int x, int y, int scale) {
            return TURN_XX[turns[i]] * x + TURN_XY[turns[i]] * y + scale * shiftX[i];
        }

        int aheadY(int i, int x, int y, int scale) {
            return TURN_YX[turns[i]] * x + TURN_YY[turns[i]] * y + scale * shiftY[i];
        }

        long countWords(int k) {
            if (k <= 0) {
                return 1;
            }
            Arrays.fill(ways, 1);
            for (int length = 2; length <= k; length++) {
                for (int i = 0; i < moves; i++) {
                    longerWays[i] = waysBehind(i);
                }
                System.arraycopy(longerWays, 0, ways, 0, moves);
            }
            long all = 0;
            for (int i = 0; i < moves; i++) {
                all += ways[i];
            }
            return all;
        }

        private long waysBehind(int i) {
            long all = 0;
            for (int j = 0; j < moves; j++) {
                if (!isBarred(i, j)) {
                    all += ways[j];
                }
            }
            return all;
        }

        long weightAt(int k, int x, int y) {
            return weightAhead(k, 0, 0, 1, x, y);
        }

        /** How much all words weigh that lead to (toX, toY) by putting left moves more ahead of (x, y)'s word. */
        private long weightAhead(int left, int x, int y, int scale, int toX, int toY) {
            if (left <= 0) {
                return x == toX && y == toY ? 1 : 0;
            }
            long all = 0;
            for (int i = 0; i < moves; i++) {
                int nextX = aheadX(i, x, y, scale);
                int nextY = aheadY(i, x, y, scale);
                all += weightOf(i) * weightAhead(left - 1, nextX, nextY, scale * base, toX, toY);
            }
            return all;
        }

        long digestOnto(long h) {
            if (isMissing()) {
                return 31 * h - 1;
            }
            h = 31 * h + kind;
            h = 31 * h + base;
            h = 31 * h + moves;
            for (int i = 0; i < moves; i++) {
                h = 31 * h + turns[i];
                h = 31 * h + shiftX[i];
                h = 31 * h + shiftY[i];
                if (kind == WEIGHED || kind == BARRED) {
                    h = 31 * h + extras[i];
                }
            }
            return h;
        }
    }

    /** Reads a text of moves. */
    private static final class Reader {
        private Row source = new Row(0);
        private int next = 0;
        private int figure = 0;

        /** Reads a text's moves into a draft: the fault, or NONE. */
        int read(Row text, Shape draft) {
            source = text;
            next = 0;
            if (!takesOneOf(50, 52)) {
                return next;
            }
            draft.begin(source.places[0] - 48);
            for (int i = 0; i <= MOST_MOVES; i++) {
                if (i > 0 && next >= source.size) {
                    return NONE;
                }
                if (i == MOST_MOVES || !takesMove(draft)) {
                    return next;
                }
            }
            return next;
        }

        private boolean takesMove(Shape draft) {
            if (!takesOneOf(47, 47) || !takesOneOf(97, 104)) {
                return false;
            }
            int turn = source.places[next - 1] - 97;
            if (!takesFigure()) {
                return false;
            }
            int x = figure;
            if (!takesFigure()) {
                return false;
            }
            draft.addMove(turn, x, figure);
            return true;
        }

        private boolean takesFigure() {
            boolean below = takesOneOf(45, 45);
            if (!takesOneOf(48, 57)) {
                return false;
            }
            int size = source.places[next - 1] - 48;
            figure = below ? -size : size;
            return true;
        }

        private boolean takesOneOf(int first, int last) {
            if (!source.hasPlace(next) || source.places[next] < first || source.places[next] > last) {
                return false;
            }
            next++;
            return true;
        }
    }

    /** What leads a place p to (M p and P) by scale. */
    private static final class Affine {
        long xx, xy, yx, yy;
        long px, py;
        long scale;

        void follow(Shape shape, Row word, int from, int n) {
            rest();
            for (int j = from + n - 1; j >= from; j--) {
                putAhead(shape, word.places[j]);
            }
        }

        private void rest() {
            xx = 1;
            xy = 0;
            yx = 0;
            yy = 1;
            px = 0;
            py = 0;
            scale = 1;
        }

        private void putAhead(Shape shape, int i) {
            int turn = shape.turns[i];
            long a = TURN_XX[turn], b = TURN_XY[turn], c = TURN_YX[turn], d = TURN_YY[turn];
            long oldXx = xx, oldXy = xy, oldPx = px;
            xx = a * oldXx + b * yx;
            xy = a * oldXy + b * yy;
            yx = c * oldXx + d * yx;
            yy = c * oldXy + d * yy;
            px = a * oldPx + b * py + scale * shape.shiftX[i];
            py = c * oldPx + d * py + scale * shape.shiftY[i];
            scale *= shape.base;
        }

        /** The weights' mean of all moves, both sides of the fraction times all weights. */
        void blend(Shape shape) {
            rest();
            xx = 0;
            yy = 0;
            for (int i = 0; i < shape.moves; i++) {
                long weight = shape.weightOf(i);
                int turn = shape.turns[i];
                xx += weight * TURN_XX[turn];
                xy += weight * TURN_XY[turn];
                yx += weight * TURN_YX[turn];
                yy += weight * TURN_YY[turn];
                px += weight * shape.shiftX[i];
                py += weight * shape.shiftY[i];
            }
            scale = (long) shape.base * shape.weightOfAll();
        }

        /** The place that is led to itself is (fixedX by divisor, fixedY by divisor). */
        long divisor() {
            return (scale - xx) * (scale - yy) - xy * yx;
        }

        long fixedX() {
            return (scale - yy) * px + xy * py;
        }

        long fixedY() {
            return yx * px + (scale - xx) * py;
        }
    }

    /** Unlike cells in the order in which they came first, and how often each came. */
    private static final class Cells {
        static final int HALF = 4096;

        final int[] keys;
        final int[] times;
        final int[] slots;
        int mask = 0;
        int size = 0;
        int most = 0;
        int leastX, greatestX, leastY, greatestY;

        /** The number of slots is a power of two, above the room. */
        Cells(int room, int slotCount) {
            keys = new int[room];
            times = new int[room];
            slots = new int[slotCount];
        }

        /** Half of the slots stay free, so that a search is short. */
        void clear(int expected) {
            int used = 2;
            for (int bit = 1; bit < 30 && used < 2 * expected && used < slots.length; bit++) {
                used *= 2;
            }
            mask = used - 1;
            Arrays.fill(slots, 0, used, 0);
            size = 0;
            most = 0;
        }

        void gather(Shape shape, int k) {
            int expected = 1;
            for (int i = 0; i < k; i++) {
                expected *= shape.moves;
            }
            clear(expected);
            grow(shape, k, 0, 0, MISSING, 1);
        }

        /** Puts moves ahead of a word, whose first move is told, until it is as long as due. */
        private void grow(Shape shape, int left, int x, int y, int first, int scale) {
            if (left <= 0) {
                add(x, y);
                return;
            }
            for (int i = 0; i < shape.moves; i++) {
                if (first == MISSING || !shape.isBarred(i, first)) {
                    int nextX = shape.aheadX(i, x, y, scale);
                    int nextY = shape.aheadY(i, x, y, scale);
                    grow(shape, left - 1, nextX, nextY, i, scale * shape.base);
                }
            }
        }

        private static boolean hasKey(int x, int y) {
            return x >= -HALF && x < HALF && y >= -HALF && y < HALF;
        }

        private static int keyOf(int x, int y) {
            return (x + HALF) * 2 * HALF + y + HALF;
        }

        int xOf(int i) {
            return keys[i] / (2 * HALF) - HALF;
        }

        int yOf(int i) {
            return keys[i] % (2 * HALF) - HALF;
        }

        /** The slot of a key, or the free one where it would come. */
        private int slotOf(int key) {
            int slot = (key * -1640531527 >>> 17) & mask;
            for (int i = 0; i <= mask && slots[slot] != 0 && keys[slots[slot] - 1] != key; i++) {
                slot = (slot + 1) & mask;
            }
            return slot;
        }

        int indexOf(int x, int y) {
            return hasKey(x, y) ? slots[slotOf(keyOf(x, y))] - 1 : -1;
        }

        void add(int x, int y) {
            if (!hasKey(x, y)) {
                return;
            }
            int slot = slotOf(keyOf(x, y));
            if (slots[slot] == 0) {
                if (size >= keys.length) {
                    return;
                }
                keys[size] = keyOf(x, y);
                times[size] = 0;
                size++;
                slots[slot] = size;
                widen(x, y);
            }
            int i = slots[slot] - 1;
            times[i]++;
            most = Math.max(most, times[i]);
        }

        private void widen(int x, int y) {
            leastX = size == 1 ? x : Math.min(leastX, x);
            greatestX = size == 1 ? x : Math.max(greatestX, x);
            leastY = size == 1 ? y : Math.min(leastY, y);
            greatestY = size == 1 ? y : Math.max(greatestY, y);
        }

        long bitsOfLine(int y) {
            long bits = 0;
            for (int i = 0; i < size; i++) {
                if (yOf(i) - leastY == y) {
                    bits |= 1L << (xOf(i) - leastX);
                }
            }
            return bits;
        }

        boolean allMovedTo(Cells target, int x, int y) {
            for (int i = 0; i < size; i++) {
                if (target.indexOf(xOf(i) + x, yOf(i) + y) < 0) {
                    return false;
                }
            }
            return true;
        }
    }

    /** The vectors by which pieces of a straight shape differ, and which of them are alive. */
    private static final class Vectors {
        static final int ROOM = 37 * 37;
        static final int PAIRS = MOST_MOVES * MOST_MOVES;

        final boolean[] living = new boolean[ROOM];
        final boolean[] seen = new boolean[ROOM];
        final int[] open = new int[ROOM];
        final long[] ways = new long[ROOM];
        final long[] nextWays = new long[ROOM];
        final int[] stepX = new int[PAIRS];
        final int[] stepY = new int[PAIRS];
        int opened = 0;
        int pairs = 0;
        int base = 2;
        int reach = 0;
        int side = 1;
        /** How many vectors are within the bounds; (0, 0) is the middle one. */
        int all = 1;

        void look(Shape shape) {
            base = shape.base;
            reach = shape.reach();
            side = 2 * reach + 1;
            all = side * side;
            pairs = 0;
            for (int i = 0; i < shape.moves; i++) {
                for (int j = 0; j < shape.moves; j++) {
                    stepX[pairs] = shape.shiftX[j] - shape.shiftX[i];
                    stepY[pairs] = shape.shiftY[j] - shape.shiftY[i];
                    pairs++;
                }
            }
            for (int v = 0; v < all; v++) {
                living[v] = true;
            }
            boolean changed = true;
            for (int sweep = 0; sweep <= ROOM && changed; sweep++) {
                changed = takeAwayDead();
            }
        }

        private boolean takeAwayDead() {
            boolean changed = false;
            for (int v = 0; v < all; v++) {
                if (living[v] && !goesOn(v)) {
                    living[v] = false;
                    changed = true;
                }
            }
            return changed;
        }

        private boolean goesOn(int v) {
            int x = base * xOf(v);
            int y = base * yOf(v);
            for (int p = 0; p < pairs; p++) {
                if (livingAt(x + stepX[p], y + stepY[p]) >= 0) {
                    return true;
                }
            }
            return false;
        }

        private int xOf(int v) {
            return v / side - reach;
        }

        private int yOf(int v) {
            return v % side - reach;
        }

        /** The number of the living vector (x, y), or -1. */
        int livingAt(int x, int y) {
            if (x < -reach || x > reach || y < -reach || y > reach) {
                return -1;
            }
            int v = (x + reach) * side + y + reach;
            return living[v] ? v : -1;
        }

        int countLiving() {
            int count = 0;
            for (int v = 0; v < all; v++) {
                if (living[v]) {
                    count++;
                }
            }
            return count;
        }

        /** The moves that meet move i, as bits. */
        int meeting(Shape shape, int i) {
            int bits = 0;
            for (int j = 0; j < shape.moves; j++) {
                int x = shape.shiftX[j] - shape.shiftX[i];
                int y = shape.shiftY[j] - shape.shiftY[i];
                if (j != i && livingAt(x, y) >= 0) {
                    bits |= 1 << j;
                }
            }
            return bits;
        }

        boolean joinAll(Shape shape) {
            int joined = 1;
            for (int turn = 0; turn < shape.moves; turn++) {
                for (int i = 0; i < shape.moves; i++) {
                    if ((joined >> i & 1) != 0) {
                        joined |= meeting(shape, i);
                    }
                }
            }
            return joined == (1 << shape.moves) - 1;
        }

        /** Whether two words of a shape, all of whose shifts are unlike, ever come to one point. */
        boolean comeToOne() {
            opened = 0;
            for (int v = 0; v < all; v++) {
                seen[v] = false;
            }
            for (int p = 0; p < pairs; p++) {
                if (stepX[p] != 0 || stepY[p] != 0) {
                    openIfLiving(stepX[p], stepY[p]);
                }
            }
            for (int done = 0; done < opened && done < ROOM; done++) {
                int x = base * xOf(open[done]);
                int y = base * yOf(open[done]);
                for (int p = 0; p < pairs; p++) {
                    openIfLiving(x + stepX[p], y + stepY[p]);
                }
            }
            return seen[all / 2];
        }

        private void openIfLiving(int x, int y) {
            int v = livingAt(x, y);
            if (v >= 0 && !seen[v]) {
                seen[v] = true;
                open[opened] = v;
                opened++;
            }
        }

        /** The ways of k steps from all living vectors but (0, 0). */
        long countWays(int k) {
            for (int v = 0; v < all; v++) {
                ways[v] = living[v] ? 1 : 0;
            }
            ways[all / 2] = 0;
            for (int step = 0; step < k; step++) {
                stepOn();
            }
            long sum = 0;
            for (int v = 0; v < all; v++) {
                sum += ways[v];
            }
            return sum;
        }

        private void stepOn() {
            Arrays.fill(nextWays, 0, all, 0);
            for (int v = 0; v < all; v++) {
                int x = base * xOf(v);
                int y = base * yOf(v);
                for (int p = 0; p < pairs && ways[v] != 0; p++) {
                    int next = livingAt(x + stepX[p], y + stepY[p]);
                    if (next >= 0) {
                        nextWays[next] += ways[v];
                    }
                }
            }
            System.arraycopy(nextWays, 0, ways, 0, all);
        }
    }

    /** The net of a step: its points, joined where their difference is alive. */
    private static final class Net {
        static final int ROOM = 216;

        final int[] x = new int[ROOM];
        final int[] y = new int[ROOM];
        final int[] number = new int[ROOM];
        final int[] low = new int[ROOM];
        final int[] from = new int[ROOM];
        final int[] next = new int[ROOM];
        final boolean[] cut = new boolean[ROOM];
        final Cells cells;
        final Vectors vectors;
        int size = 0;
        int numbered = 0;
        /** Each joint is tried from both of its ends. */
        int jointEnds = 0;
        int joints = 0;
        int parts = 0;
        int cuts = 0;

        Net(Cells points, Vectors neighbours) {
            cells = points;
            vectors = neighbours;
        }

        void weave() {
            size = Math.min(ROOM, cells.size);
            numbered = 0;
            jointEnds = 0;
            parts = 0;
            for (int v = 0; v < size; v++) {
                x[v] = cells.xOf(v);
                y[v] = cells.yOf(v);
                number[v] = 0;
                cut[v] = false;
            }
            for (int v = 0; v < size; v++) {
                if (number[v] == 0) {
                    parts++;
                    explore(v);
                }
            }
            joints = jointEnds / 2;
            countCuts();
        }

        private boolean joined(int v, int w) {
            return v != w && vectors.livingAt(x[w] - x[v], y[w] - y[v]) >= 0;
        }

        private void countCuts() {
            cuts = 0;
            for (int v = 0; v < size; v++) {
                if (cut[v]) {
                    cuts++;
                }
            }
        }

        /** Goes down every joint of a part once; a point is a cut if what lies below it has no way around it. */
        private void explore(int root) {
            int below = 0;
            int v = root;
            enter(root, -1);
            for (int step = 0; step < PATIENCE && v >= 0; step++) {
                if (next[v] < size) {
                    v = tryJoint(v, next[v]++);
                } else {
                    if (from[v] == root) {
                        below++;
                    }
                    v = leave(v, root);
                }
            }
            cut[root] = below > 1;
        }

        private void enter(int v, int parent) {
            numbered++;
            number[v] = numbered;
            low[v] = numbered;
            from[v] = parent;
            next[v] = 0;
        }

        private int tryJoint(int v, int w) {
            if (!joined(v, w)) {
                return v;
            }
            jointEnds++;
            if (number[w] == 0) {
                enter(w, v);
                return w;
            }
            if (w != from[v]) {
                low[v] = Math.min(low[v], number[w]);
            }
            return v;
        }

        private int leave(int v, int root) {
            int parent = from[v];
            if (parent >= 0) {
                low[parent] = Math.min(low[parent], low[v]);
                if (parent != root && low[v] >= number[parent]) {
                    cut[parent] = true;
                }
            }
            return parent;
        }
    }

    /** The places that one comes to from a place, in parts of q. */
    private static final class Walk {
        static final int MOST = 2000;

        final boolean[] ended = new boolean[MOST];
        final int[] stepX = new int[MOST_MOVES];
        final int[] stepY = new int[MOST_MOVES];
        final Cells reached;
        int moves = 0;
        int base = 2;
        int leastX, greatestX, leastY, greatestY;

        Walk(Cells room) {
            reached = room;
        }

        void begin(Shape shape, int q) {
            base = shape.base;
            moves = shape.moves;
            for (int i = 0; i < moves; i++) {
                stepX[i] = q * shape.shiftX[i];
                stepY[i] = q * shape.shiftY[i];
            }
            leastX = q * shape.leastOf(shape.shiftX);
            greatestX = q * shape.greatestOf(shape.shiftX);
            leastY = q * shape.leastOf(shape.shiftY);
            greatestY = q * shape.greatestOf(shape.shiftY);
        }

        /** The bounds are told times (base less 1), to stay whole. */
        private boolean isWithin(int x, int y) {
            int by = base - 1;
            return by * x >= leastX && by * x <= greatestX && by * y >= leastY && by * y <= greatestY;
        }

        private int nextX(int place, int i) {
            return base * reached.xOf(place) - stepX[i];
        }

        private int nextY(int place, int i) {
            return base * reached.yOf(place) - stepY[i];
        }

        /** False if there are too many places. */
        boolean reachAll(int x, int y) {
            reached.clear(MOST);
            addIfWithin(x, y);
            for (int done = 0; done < reached.size && reached.size <= MOST; done++) {
                for (int i = 0; i < moves; i++) {
                    addIfWithin(nextX(done, i), nextY(done, i));
                }
            }
            return reached.size <= MOST;
        }

        private void addIfWithin(int x, int y) {
            if (isWithin(x, y)) {
                reached.add(x, y);
            }
        }

        /** How many of the places go on for ever. */
        int settle() {
            for (int place = 0; place < reached.size; place++) {
                ended[place] = false;
            }
            boolean changed = true;
            for (int sweep = 0; sweep <= MOST && changed; sweep++) {
                changed = endWhatStops();
            }
            int left = 0;
            for (int place = 0; place < reached.size; place++) {
                if (!ended[place]) {
                    left++;
                }
            }
            return left;
        }

        /** From the last to the first: what came later ends first. */
        private boolean endWhatStops() {
            boolean changed = false;
            for (int place = reached.size - 1; place >= 0; place--) {
                if (!ended[place] && !goesOn(place)) {
                    ended[place] = true;
                    changed = true;
                }
            }
            return changed;
        }

        private boolean goesOn(int place) {
            for (int i = 0; i < moves; i++) {
                int next = reached.indexOf(nextX(place, i), nextY(place, i));
                if (next >= 0 && !ended[next]) {
                    return true;
                }
            }
            return false;
        }
    }

    /** Cells drawn on their least board, with one row and column more on each side. */
    private static final class Picture {
        static final int MOST = 1600;

        final boolean[] filled = new boolean[MOST];
        final int[] open = new int[MOST];
        int opened = 0;
        int wide = 1;
        int all = 0;

        /** False if the board has too many cells. */
        boolean draw(Cells cells) {
            wide = cells.greatestX - cells.leastX + 3;
            all = wide * (cells.greatestY - cells.leastY + 3);
            if (all > MOST) {
                return false;
            }
            for (int cell = 0; cell < all; cell++) {
                filled[cell] = false;
            }
            for (int i = 0; i < cells.size; i++) {
                int x = cells.xOf(i) - cells.leastX + 1;
                int y = cells.yOf(i) - cells.leastY + 1;
                filled[y * wide + x] = true;
            }
            return true;
        }

        /** Fills the picture part by part; one of the parts is the outside. */
        int countHoles() {
            int parts = 0;
            for (int cell = 0; cell < all; cell++) {
                if (!filled[cell]) {
                    parts++;
                    fillPart(cell);
                }
            }
            return parts - 1;
        }

        private void fillPart(int first) {
            opened = 0;
            openCell(first);
            for (int done = 0; done < opened && done < MOST; done++) {
                int cell = open[done];
                int x = cell % wide;
                if (x > 0) {
                    openCell(cell - 1);
                }
                if (x < wide - 1) {
                    openCell(cell + 1);
                }
                openCell(cell - wide);
                openCell(cell + wide);
            }
        }

        private void openCell(int cell) {
            if (cell >= 0 && cell < all && !filled[cell]) {
                filled[cell] = true;
                open[opened] = cell;
                opened++;
            }
        }
    }
}
