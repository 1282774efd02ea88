/** A judge of graphs by shapes that are told in a text. What each call answers stands in DOC.md. */
public final class ShapeJudge {
    public static final int BAD = -1, STATE = -2, FULL = -3, NONE = -4;

    private static final int NODES = 10, NAMES = 10, EDGES = 40, EDGES_OF_ONE = 5;
    private static final int BYTES = 400, SHAPES = 6, PARTS = 6, DEPTH = 6, OFTEN = 5;
    private static final int PLACE_BASE = -10;

    // The tests of a PART, by the numbers that part() answers.
    private static final int ANY = 0, FITTING = 1, UNFITTING = 2, BETWEEN = 3;

    private final Graph graph;
    private final Tape tape;
    private final TextReader reader;
    private final Judge judge;
    private Book book;
    // The text is read into this one, so that a FAULT leaves the SHAPES of the other as they are.
    private Book spare;
    private int latestFault;

    public ShapeJudge() {
        graph = new Graph();
        tape = new Tape();
        reader = new TextReader(tape);
        book = new Book();
        spare = new Book();
        judge = new Judge(graph, book);
        latestFault = 0;
    }

    public int node(boolean valued, int value) {
        if (graph.nodes >= NODES) {
            return FULL;
        }
        judge.forget();
        return graph.addNode(valued, value);
    }

    public int value(int n, boolean valued, int value) {
        if (!graph.hasNode(n)) {
            return BAD;
        }
        judge.forget();
        graph.setValue(n, valued, value);
        return 1;
    }

    public int edge(int from, int name, int to) {
        if (!graph.canBeEdge(from, name, to)) {
            return BAD;
        }
        if (graph.placeOf(from, name, to) >= 0) {
            return STATE;
        }
        if (graph.edges >= EDGES || graph.degrees[from] >= EDGES_OF_ONE) {
            return FULL;
        }
        judge.forget();
        graph.addEdge(from, name, to);
        return graph.edges;
    }

    public int cut(int from, int name, int to) {
        if (!graph.canBeEdge(from, name, to)) {
            return BAD;
        }
        int i = graph.placeOf(from, name, to);
        if (i < 0) {
            return STATE;
        }
        judge.forget();
        graph.removeEdge(from, i);
        return graph.edges;
    }

    public int feed(int a, int b, int c, int d, int e) {
        if (tape.length + 20 > BYTES) {
            return FULL;
        }
        tape.append(a);
        tape.append(b);
        tape.append(c);
        tape.append(d);
        tape.append(e);
        return tape.length;
    }

    public int end(int n) {
        if (n < 0 || n > tape.length) {
            return BAD;
        }
        int had = tape.length;
        tape.length = n;
        return had;
    }

    public int shapes() {
        reader.readText(spare);
        tape.length = 0;
        latestFault = reader.faultKind;
        if (latestFault != 0) {
            return PLACE_BASE - reader.faultPlace;
        }
        Book old = book;
        book = spare;
        spare = old;
        judge.follow(book);
        return book.shapeCount;
    }

    public int fault() {
        return latestFault;
    }

    public int fits(int n, int shape) {
        if (!isPair(n, shape)) {
            return BAD;
        }
        judge.readFits();
        return judge.fitting[shape] >> n & 1;
    }

    public int surely(int n, int shape) {
        if (!isPair(n, shape)) {
            return BAD;
        }
        judge.readFits();
        judge.readSure();
        return judge.sure[shape] >> n & 1;
    }

    public int all(int shape) {
        if (!book.hasShape(shape)) {
            return BAD;
        }
        judge.readFits();
        return judge.fitting[shape];
    }

    public int wanted(int n, int shape) {
        return isPair(n, shape) ? Integer.bitCount(judge.wantedEdges(n, shape)) : BAD;
    }

    public int dealt(int n, int shape, int i) {
        if (!isPair(n, shape) || !graph.hasEdge(n, i)) {
            return BAD;
        }
        judge.readFits();
        if ((judge.fitting[shape] >> n & 1) == 0) {
            return STATE;
        }
        if ((judge.wantedEdges(n, shape) >> i & 1) == 0) {
            return NONE;
        }
        return judge.leastPartOf(n, shape, i);
    }

    public int tooMany(int n, int shape) {
        if (!isPair(n, shape)) {
            return BAD;
        }
        int surplus = judge.surplusEdges(n, shape);
        return surplus < 0 ? NONE : Integer.bitCount(surplus);
    }

    public int which(int n, int shape) {
        if (!isPair(n, shape)) {
            return BAD;
        }
        int surplus = judge.surplusEdges(n, shape);
        return surplus < 0 ? NONE : surplus;
    }

    public int depends(int shape, int other) {
        if (!book.hasShape(shape) || !book.hasShape(other)) {
            return BAD;
        }
        return book.reach[shape] >> other & 1;
    }

    public int part(int shape, int p, int what) {
        if (!book.hasPart(shape, p)) {
            return BAD;
        }
        int slot = shape * PARTS + p;
        switch (what) {
            case 0: return book.partName[slot];
            case 1: return book.partTest[slot];
            case 2: return book.partFirst[slot];
            case 3: return book.partSecond[slot];
            default: return BAD;
        }
    }

    public int told(int shape, int what) {
        if (!book.hasShape(shape)) {
            return BAD;
        }
        switch (what) {
            case 0: return book.word[shape];
            case 1: return book.partCount[shape];
            case 2: return book.closed[shape] ? 1 : 0;
            default: return BAD;
        }
    }

    public int from(int n, int i, int what) {
        if (!graph.hasNode(n) || !graph.hasEdge(n, i)) {
            return BAD;
        }
        int slot = n * EDGES_OF_ONE + i;
        switch (what) {
            case 0: return graph.edgeName[slot];
            case 1: return graph.edgeTo[slot];
            default: return BAD;
        }
    }

    public int reset() {
        int went = graph.nodes;
        graph.clear();
        judge.forget();
        latestFault = 0;
        return went;
    }

    public int count(int what) {
        switch (what) {
            case 0: return graph.nodes;
            case 1: return graph.edges;
            case 2: return book.shapeCount;
            case 3: return tape.length;
            case 4:
                judge.readFits();
                return pairsIn(judge.fitting);
            case 5:
                judge.readFits();
                judge.readSure();
                return pairsIn(judge.sure);
            default: return BAD;
        }
    }

    private boolean isPair(int n, int shape) {
        return graph.hasNode(n) && book.hasShape(shape);
    }

    private int pairsIn(int[] nodesOfShapes) {
        int sum = 0;
        for (int s = 0; s < book.shapeCount && s < nodesOfShapes.length; s++) {
            sum += Integer.bitCount(nodesOfShapes[s]);
        }
        return sum;
    }

    /** The NODES and EDGES. The EDGES of NODE n, in order, begin at n * EDGES_OF_ONE. */
    private static final class Graph {
        int nodes;
        int edges;
        final boolean[] valued = new boolean[NODES];
        final int[] values = new int[NODES];
        final int[] degrees = new int[NODES];
        final int[] edgeName = new int[NODES * EDGES_OF_ONE];
        final int[] edgeTo = new int[NODES * EDGES_OF_ONE];

        boolean hasNode(int n) {
            return n >= 0 && n < nodes && n < NODES;
        }

        boolean hasEdge(int n, int i) {
            return i >= 0 && i < degrees[n] && i < EDGES_OF_ONE;
        }

        boolean canBeEdge(int from, int name, int to) {
            return hasNode(from) && name >= 0 && name < NAMES && hasNode(to);
        }

        void clear() {
            nodes = 0;
            edges = 0;
        }

        int addNode(boolean isValued, int number) {
            int n = nodes;
            nodes++;
            degrees[n] = 0;
            setValue(n, isValued, number);
            return n;
        }

        void setValue(int n, boolean isValued, int number) {
            valued[n] = isValued;
            values[n] = number;
        }

        int placeOf(int from, int name, int to) {
            int base = from * EDGES_OF_ONE;
            for (int i = 0; i < degrees[from]; i++) {
                if (edgeName[base + i] == name && edgeTo[base + i] == to) {
                    return i;
                }
            }
            return -1;
        }

        void addEdge(int from, int name, int to) {
            int slot = from * EDGES_OF_ONE + degrees[from];
            int base = from * EDGES_OF_ONE;
            while (slot > base && isAhead(name, to, slot - 1)) {
                edgeName[slot] = edgeName[slot - 1];
                edgeTo[slot] = edgeTo[slot - 1];
                slot--;
            }
            edgeName[slot] = name;
            edgeTo[slot] = to;
            degrees[from]++;
            edges++;
        }

        void removeEdge(int from, int i) {
            int base = from * EDGES_OF_ONE;
            for (int j = i + 1; j < degrees[from]; j++) {
                edgeName[base + j - 1] = edgeName[base + j];
                edgeTo[base + j - 1] = edgeTo[base + j];
            }
            degrees[from]--;
            edges--;
        }

        private boolean isAhead(int name, int to, int slot) {
            return name < edgeName[slot] || name == edgeName[slot] && to < edgeTo[slot];
        }
    }

    /** THE TAPE. */
    private static final class Tape {
        final byte[] bytes = new byte[BYTES];
        int length;

        int byteAt(int place) {
            return place >= 0 && place < length && place < BYTES ? bytes[place] & 255 : -1;
        }

        void append(int number) {
            for (int shift = 24; shift >= 0 && length < BYTES; shift -= 8) {
                bytes[length] = (byte) (number >>> shift);
                length++;
            }
        }
    }

    /** Cuts THE TAPE into TOKENS. A SIGN of one byte has that byte as its kind. */
    private static final class Tokens {
        // No byte of a SIGN is so low, so that these can stand beside the SIGNS.
        static final int END = 0, WRONG = 1, WORD = 2, NUMBER = 3, CLOSED = 4, DOTS = 5;
        private static final int FIGURES = 4;
        private static final String CLOSED_TEXT = "closed";

        private final Tape tape;
        private int next;
        int kind;
        int place;
        int number;

        Tokens(Tape tape) {
            this.tape = tape;
        }

        void rewind() {
            next = 0;
        }

        void advance() {
            int at = next;
            while (at < tape.length && tape.byteAt(at) == ' ') {
                at++;
            }
            place = at;
            int first = tape.byteAt(at);
            if (first < 0) {
                become(END, 0);
            } else if (first >= 'A' && first <= 'Z') {
                number = first;
                become(WORD, 1);
            } else if (first == '-' || isFigure(first)) {
                readNumber();
            } else if (first == 'c') {
                become(isClosedText() ? CLOSED : WRONG, CLOSED_TEXT.length());
            } else if (first == '.' && tape.byteAt(at + 1) == '.' && tape.byteAt(at + 2) == '.') {
                become(DOTS, 3);
            } else {
                become(isSign(first) ? first : WRONG, 1);
            }
        }

        private void become(int newKind, int length) {
            kind = newKind;
            next = place + length;
        }

        private void readNumber() {
            boolean minus = tape.byteAt(place) == '-';
            int begin = minus ? place + 1 : place;
            int figures = 0;
            int sum = 0;
            // One figure more than there may be is read, to see that it is too long.
            while (figures <= FIGURES && isFigure(tape.byteAt(begin + figures))) {
                sum = sum * 10 + tape.byteAt(begin + figures) - '0';
                figures++;
            }
            number = minus ? -sum : sum;
            become(figures >= 1 && figures <= FIGURES ? NUMBER : WRONG, begin - place + figures);
        }

        private boolean isClosedText() {
            for (int i = 0; i < CLOSED_TEXT.length(); i++) {
                if (tape.byteAt(place + i) != CLOSED_TEXT.charAt(i)) {
                    return false;
                }
            }
            return true;
        }

        private static boolean isFigure(int b) {
            return b >= '0' && b <= '9';
        }

        private static boolean isSign(int b) {
            switch (b) {
                case '=': case ';': case ',': case '|': case '(': case ')':
                case '[': case ']': case '@': case '!': case '.':
                    return true;
                default:
                    return false;
            }
        }
    }

    /** Takes TOKEN after TOKEN of a text into a Book, or stops at the first FAULT. */
    private static final class TextReader {
        // What is awaited next. A state machine, not a descent, so that few calls stand open at once.
        private static final int AT_SHAPE = 0, AT_EQUALS = 1, AT_BODY = 2, AT_ONE = 3, AT_TEST = 4,
            AT_WORD = 5, AT_DOTS = 6, AT_LAST = 7, AFTER_ONE = 8, AT_LEAST = 9, AT_MOST = 10,
            AT_BRACKET = 11, AFTER_ITEM = 12, AT_SEMICOLON = 13, DONE = 14;

        private final Tokens tokens;
        private Book book;
        private int state;
        private int depth;
        // For each depth a bit: whether a , or a | there waits for what is behind it.
        private int commas;
        private int bars;
        private int test;
        private int firstNumber;
        int faultKind;
        int faultPlace;

        TextReader(Tape tape) {
            tokens = new Tokens(tape);
        }

        void readText(Book into) {
            book = into;
            book.clear();
            tokens.rewind();
            state = AT_SHAPE;
            depth = 0;
            commas = 0;
            bars = 0;
            faultKind = 0;
            faultPlace = 0;
            for (int turn = 0; turn <= BYTES && faultKind == 0 && state != DONE; turn++) {
                tokens.advance();
                if (tokens.kind == Tokens.WRONG) {
                    fail(1);
                } else {
                    takeToken();
                }
            }
            if (faultKind == 0) {
                linkShapes();
            }
        }

        private void fail(int kind) {
            faultKind = kind;
            faultPlace = tokens.place;
        }

        private void takeToken() {
            switch (state) {
                case AT_SHAPE: takeShapeWord(); break;
                case AT_EQUALS: takeSign('=', AT_BODY); break;
                case AT_BODY: takeBody(); break;
                case AT_ONE: takeOne(); break;
                case AT_TEST: takeTest(); break;
                case AT_WORD: takeReference(); break;
                case AT_DOTS: takeSign(Tokens.DOTS, AT_LAST); break;
                case AT_LAST: takeLastNumber(); break;
                case AFTER_ONE: takeBehindOne(); break;
                case AT_LEAST: takeLeast(); break;
                case AT_MOST: takeMost(); break;
                case AT_BRACKET: takeSign(']', AFTER_ITEM); break;
                case AFTER_ITEM: takeBehindItem(); break;
                default: takeSign(';', AT_SHAPE); break;
            }
        }

        private void takeSign(int kind, int then) {
            if (tokens.kind == kind) {
                state = then;
            } else {
                fail(2);
            }
        }

        private void takeShapeWord() {
            if (tokens.kind == Tokens.END && book.shapeCount > 0) {
                state = DONE;
            } else if (tokens.kind != Tokens.WORD) {
                fail(2);
            } else if (book.shapeCount >= SHAPES) {
                fail(4);
            } else if (book.shapeOf(tokens.number) >= 0) {
                fail(5);
            } else {
                book.openShape(tokens.number);
                state = AT_EQUALS;
            }
        }

        private void takeBody() {
            if (tokens.kind == '(' || tokens.kind == Tokens.NUMBER) {
                takeOne();
            } else {
                takeShapeEnd();
            }
        }

        private void takeShapeEnd() {
            if (tokens.kind == Tokens.CLOSED) {
                book.closeShape();
                state = AT_SEMICOLON;
            } else {
                takeSign(';', AT_SHAPE);
            }
        }

        private void takeOne() {
            if (tokens.kind == '(') {
                takeOpening();
            } else if (tokens.kind != Tokens.NUMBER) {
                fail(2);
            } else if (tokens.number < 0 || tokens.number >= NAMES) {
                fail(3);
            } else if (!book.hasRoomForPart()) {
                fail(4);
            } else {
                book.addPart(tokens.number);
                state = AT_TEST;
            }
        }

        private void takeOpening() {
            if (depth >= DEPTH) {
                fail(4);
            } else {
                depth++;
                state = AT_ONE;
            }
        }

        private void takeTest() {
            if (tokens.kind == '.') {
                book.tellPart(ANY, 0, 0, 0);
                state = AFTER_ONE;
            } else if (tokens.kind == '@' || tokens.kind == '!') {
                test = tokens.kind == '@' ? FITTING : UNFITTING;
                state = AT_WORD;
            } else if (tokens.kind == Tokens.NUMBER) {
                firstNumber = tokens.number;
                state = AT_DOTS;
            } else {
                fail(2);
            }
        }

        private void takeReference() {
            if (tokens.kind == Tokens.WORD) {
                book.tellPart(test, tokens.number, 0, tokens.place);
                state = AFTER_ONE;
            } else {
                fail(2);
            }
        }

        private void takeLastNumber() {
            if (isNumberFrom(firstNumber, Integer.MAX_VALUE)) {
                book.tellPart(BETWEEN, firstNumber, tokens.number, 0);
                state = AFTER_ONE;
            }
        }

        private void takeBehindOne() {
            if (tokens.kind == '[') {
                state = AT_LEAST;
            } else {
                takeBehindItem();
            }
        }

        private void takeLeast() {
            if (isNumberFrom(0, OFTEN)) {
                firstNumber = tokens.number;
                state = AT_MOST;
            }
        }

        private void takeMost() {
            if (isNumberFrom(firstNumber, OFTEN)) {
                book.addStep(Book.TIMES, firstNumber * Book.ARGUMENT + tokens.number);
                state = AT_BRACKET;
            }
        }

        private boolean isNumberFrom(int least, int greatest) {
            if (tokens.kind != Tokens.NUMBER) {
                fail(2);
            } else if (tokens.number < least || tokens.number > greatest) {
                fail(3);
            }
            return faultKind == 0;
        }

        private void takeBehindItem() {
            int kind = tokens.kind;
            boolean isEnd = depth > 0 ? kind == ')' : kind == ';' || kind == Tokens.CLOSED;
            if (kind != ',' && kind != '|' && !isEnd) {
                fail(2);
                return;
            }
            settleComma();
            if (kind == ',') {
                commas |= 1 << depth;
                state = AT_ONE;
                return;
            }
            settleBar();
            if (kind == '|') {
                bars |= 1 << depth;
                state = AT_ONE;
            } else if (kind == ')') {
                depth--;
                state = AFTER_ONE;
            } else {
                takeShapeEnd();
            }
        }

        private void settleComma() {
            if ((commas >> depth & 1) != 0) {
                book.addStep(Book.BOTH, 0);
                commas &= ~(1 << depth);
            }
        }

        private void settleBar() {
            if ((bars >> depth & 1) != 0) {
                book.addStep(Book.EITHER, 0);
                bars &= ~(1 << depth);
            }
        }

        private void linkShapes() {
            int stranger = book.linkReferences();
            if (stranger >= 0) {
                faultKind = 6;
                faultPlace = stranger;
                return;
            }
            book.findReach();
            int circle = book.placeOfCircle();
            if (circle >= 0) {
                faultKind = 7;
                faultPlace = circle;
                return;
            }
            book.findLevels();
        }
    }

    /** The SHAPES of one text. PART p of SHAPE s is at s * PARTS + p. */
    private static final class Book {
        // The steps by which it is reckoned what a SHAPE takes: each works on what those ahead left.
        static final int PART = 0, TIMES = 1, BOTH = 2, EITHER = 3;
        // Step kind * KIND + argument; the two numbers of TIMES are least * ARGUMENT + greatest.
        static final int KIND = 64, ARGUMENT = 8;

        int shapeCount;
        private int stepCount;
        private int lastSlot;
        final int[] word = new int[SHAPES];
        final int[] partCount = new int[SHAPES];
        final boolean[] closed = new boolean[SHAPES];
        // For each SHAPE a sum of 2 to the NAMES of its PARTS.
        final int[] names = new int[SHAPES];
        // For each SHAPE a sum of 2 to the SHAPES on which it DEPENDS.
        final int[] reach = new int[SHAPES];
        // SHAPES behind a ! stand on a lower level than those in which they stand.
        final int[] level = new int[SHAPES];
        // The steps of SHAPE s go from firstStep[s] to ahead of firstStep[s + 1].
        final int[] firstStep = new int[SHAPES + 1];
        // Each step has a TOKEN of its own: a PART its NAME, TIMES its [, BOTH its comma, EITHER its |;
        // at most 36 PARTS, 30 signs between them and, of five bytes each, 80 counts.
        final int[] steps = new int[146];
        final int[] partName = new int[SHAPES * PARTS];
        final int[] partTest = new int[SHAPES * PARTS];
        final int[] partFirst = new int[SHAPES * PARTS];
        final int[] partSecond = new int[SHAPES * PARTS];
        final int[] partPlace = new int[SHAPES * PARTS];

        boolean hasShape(int s) {
            return s >= 0 && s < shapeCount && s < SHAPES;
        }

        boolean hasPart(int s, int p) {
            return hasShape(s) && p >= 0 && p < partCount[s] && p < PARTS;
        }

        int shapeOf(int wanted) {
            for (int s = 0; s < shapeCount; s++) {
                if (word[s] == wanted) {
                    return s;
                }
            }
            return -1;
        }

        void clear() {
            shapeCount = 0;
            stepCount = 0;
            lastSlot = 0;
            firstStep[0] = 0;
        }

        void openShape(int newWord) {
            if (shapeCount >= SHAPES) {
                return;
            }
            int s = shapeCount;
            shapeCount++;
            word[s] = newWord;
            partCount[s] = 0;
            closed[s] = false;
            names[s] = 0;
            reach[s] = 0;
            level[s] = 0;
            firstStep[s + 1] = stepCount;
        }

        void closeShape() {
            if (hasShape(shapeCount - 1)) {
                closed[shapeCount - 1] = true;
            }
        }

        boolean hasRoomForPart() {
            return hasShape(shapeCount - 1) && partCount[shapeCount - 1] < PARTS;
        }

        void addPart(int name) {
            if (!hasRoomForPart()) {
                return;
            }
            int s = shapeCount - 1;
            int p = partCount[s];
            partCount[s]++;
            lastSlot = s * PARTS + p;
            partName[lastSlot] = name;
            names[s] |= 1 << name;
            addStep(PART, p);
        }

        void tellPart(int test, int first, int second, int place) {
            partTest[lastSlot] = test;
            partFirst[lastSlot] = first;
            partSecond[lastSlot] = second;
            partPlace[lastSlot] = place;
        }

        void addStep(int kind, int argument) {
            if (stepCount < steps.length && hasShape(shapeCount - 1)) {
                steps[stepCount] = kind * KIND + argument;
                stepCount++;
                firstStep[shapeCount] = stepCount;
            }
        }

        boolean refers(int slot) {
            return partTest[slot] == FITTING || partTest[slot] == UNFITTING;
        }

        /** Puts SHAPES where WORDS were told; answers the place of the first WORD that is none's, or -1. */
        int linkReferences() {
            for (int s = 0; s < shapeCount; s++) {
                for (int p = 0; p < partCount[s]; p++) {
                    int slot = s * PARTS + p;
                    if (refers(slot)) {
                        int other = shapeOf(partFirst[slot]);
                        if (other < 0) {
                            return partPlace[slot];
                        }
                        partFirst[slot] = other;
                        reach[s] |= 1 << other;
                    }
                }
            }
            return -1;
        }

        /** Goes from what is told in each SHAPE to all on which it DEPENDS. */
        void findReach() {
            for (int middle = 0; middle < shapeCount; middle++) {
                for (int s = 0; s < shapeCount; s++) {
                    if ((reach[s] >> middle & 1) != 0) {
                        reach[s] |= reach[middle];
                    }
                }
            }
        }

        /** The place of the first WORD behind a ! whose SHAPE DEPENDS on that in which it stands, or -1. */
        int placeOfCircle() {
            for (int s = 0; s < shapeCount; s++) {
                for (int p = 0; p < partCount[s]; p++) {
                    int slot = s * PARTS + p;
                    if (partTest[slot] == UNFITTING && dependsOn(partFirst[slot], s)) {
                        return partPlace[slot];
                    }
                }
            }
            return -1;
        }

        private boolean dependsOn(int s, int other) {
            return hasShape(s) && (reach[s] >> other & 1) != 0;
        }

        /** No way by ! comes back, so that a way to the highest level passes each SHAPE once at most. */
        void findLevels() {
            for (int turn = 0; turn < SHAPES; turn++) {
                for (int s = 0; s < shapeCount; s++) {
                    raiseLevel(s);
                }
            }
        }

        private void raiseLevel(int s) {
            for (int p = 0; p < partCount[s]; p++) {
                int slot = s * PARTS + p;
                if (refers(slot) && hasShape(partFirst[slot])) {
                    int behind = level[partFirst[slot]];
                    level[s] = Math.max(level[s], partTest[slot] == UNFITTING ? behind + 1 : behind);
                }
            }
        }
    }

    /**
     * Reads who FITS what. A set of EDGES of one NODE is a sum of 2 to the number of each; a row of
     * such sets is an int again, with bit S for set S: five EDGES have 32 sets.
     */
    private static final class Judge {
        private static final int ALL_PARTS = (1 << PARTS) - 1;
        private static final int JUST_NOTHING = 1;
        // For set S the row of all sets that have no EDGE of S.
        private static final int[] APART = {
            0xffffffff, 0x55555555, 0x33333333, 0x11111111, 0x0f0f0f0f, 0x05050505, 0x03030303, 0x01010101,
            0x00ff00ff, 0x00550055, 0x00330033, 0x00110011, 0x000f000f, 0x00050005, 0x00030003, 0x00010001,
            0x0000ffff, 0x00005555, 0x00003333, 0x00001111, 0x00000f0f, 0x00000505, 0x00000303, 0x00000101,
            0x000000ff, 0x00000055, 0x00000033, 0x00000011, 0x0000000f, 0x00000005, 0x00000003, 0x00000001
        };

        private final Graph graph;
        private Book book;
        // For each SHAPE a sum of 2 to the NODES that FIT it, and that SURELY do.
        final int[] fitting = new int[SHAPES];
        final int[] sure = new int[SHAPES];
        private boolean fittingIsRead;
        private boolean sureIsRead;
        // For each EDGE of the NODE that is being dealt the PARTS to which it may go.
        private final int[] allowed = new int[EDGES_OF_ONE];
        // No more rows wait at once than a SHAPE has PARTS.
        private final int[] stack = new int[PARTS];
        private int thinNode;
        private int goneEdges;

        Judge(Graph graph, Book book) {
            this.graph = graph;
            this.book = book;
            for (int i = 0; i < EDGES_OF_ONE; i++) {
                allowed[i] = ALL_PARTS;
            }
        }

        void follow(Book newBook) {
            book = newBook;
            forget();
        }

        void forget() {
            fittingIsRead = false;
            sureIsRead = false;
        }

        void readFits() {
            if (fittingIsRead) {
                return;
            }
            for (int s = 0; s < SHAPES; s++) {
                fitting[s] = book.hasShape(s) ? (1 << graph.nodes) - 1 : 0;
            }
            for (int level = 0; level < SHAPES; level++) {
                boolean changed = true;
                // Each turn but the last takes a pair of a NODE and a SHAPE away.
                for (int turn = 0; changed && turn <= NODES * SHAPES; turn++) {
                    changed = dropUnfit(level);
                }
            }
            fittingIsRead = true;
        }

        private boolean dropUnfit(int level) {
            boolean changed = false;
            for (int s = 0; s < book.shapeCount; s++) {
                for (int n = 0; n < graph.nodes && book.level[s] == level; n++) {
                    if ((fitting[s] >> n & 1) != 0 && !suits(n, s, fitting)) {
                        fitting[s] &= ~(1 << n);
                        changed = true;
                    }
                }
            }
            return changed;
        }

        /** Asks that readFits has been called: what is behind a ! is told by it. */
        void readSure() {
            if (sureIsRead) {
                return;
            }
            for (int s = 0; s < SHAPES; s++) {
                sure[s] = 0;
            }
            boolean changed = true;
            for (int turn = 0; changed && turn <= NODES * SHAPES; turn++) {
                changed = addSuiting();
            }
            sureIsRead = true;
        }

        private boolean addSuiting() {
            boolean changed = false;
            for (int s = 0; s < book.shapeCount; s++) {
                for (int n = 0; n < graph.nodes; n++) {
                    if ((sure[s] >> n & 1) == 0 && suits(n, s, sure)) {
                        sure[s] |= 1 << n;
                        changed = true;
                    }
                }
            }
            return changed;
        }

        private int presentEdges(int n) {
            int whole = (1 << graph.degrees[n]) - 1;
            return n == thinNode ? whole & ~goneEdges : whole;
        }

        int wantedEdges(int n, int s) {
            int sum = 0;
            for (int i = 0; i < graph.degrees[n]; i++) {
                if ((book.names[s] >> graph.edgeName[n * EDGES_OF_ONE + i] & 1) != 0) {
                    sum |= 1 << i;
                }
            }
            return sum & presentEdges(n);
        }

        /** Whether a NODE FITS a SHAPE when those behind @ are as trusted tells. */
        private boolean suits(int n, int s, int[] trusted) {
            int wantedSet = wantedEdges(n, s);
            if (book.closed[s] && wantedSet != presentEdges(n)) {
                return false;
            }
            return (setsDealt(n, s, trusted) >>> wantedSet & 1) != 0;
        }

        /** The row of all sets of EDGES that can be DEALT to a SHAPE. */
        private int setsDealt(int n, int s, int[] trusted) {
            int height = 0;
            for (int at = book.firstStep[s]; at < book.firstStep[s + 1] && at < book.steps.length; at++) {
                int step = book.steps[at];
                int argument = step % Book.KIND;
                switch (step / Book.KIND) {
                    case Book.PART:
                        if (height < stack.length) {
                            stack[height] = setsTaken(n, s * PARTS + argument, trusted);
                            height++;
                        }
                        break;
                    case Book.TIMES:
                        if (height >= 1) {
                            stack[height - 1] = times(stack[height - 1], argument);
                        }
                        break;
                    case Book.BOTH:
                        if (height >= 2) {
                            height--;
                            stack[height - 1] = both(stack[height - 1], stack[height]);
                        }
                        break;
                    default:
                        if (height >= 2) {
                            height--;
                            stack[height - 1] |= stack[height];
                        }
                        break;
                }
            }
            return height == 0 ? JUST_NOTHING : stack[0];
        }

        private int times(int row, int argument) {
            int least = argument / Book.ARGUMENT;
            int greatest = argument % Book.ARGUMENT;
            int power = JUST_NOTHING;
            int sum = least == 0 ? JUST_NOTHING : 0;
            for (int often = 1; often <= greatest; often++) {
                power = both(power, row);
                if (often >= least) {
                    sum |= power;
                }
            }
            return sum;
        }

        /** The row of all sets that can be parted into one of each row. */
        private static int both(int row, int other) {
            int sum = 0;
            for (int set = 0; set < APART.length && row >>> set != 0; set++) {
                if ((row >>> set & 1) != 0) {
                    // Adding a set to those apart from it moves their bits up by its number.
                    sum |= (other & APART[set]) << set;
                }
            }
            return sum;
        }

        /** The row of the sets of just one EDGE that a PART takes. */
        private int setsTaken(int n, int slot, int[] trusted) {
            int there = presentEdges(n);
            int partBit = 1 << slot % PARTS;
            int row = 0;
            for (int i = 0; i < graph.degrees[n]; i++) {
                int edge = n * EDGES_OF_ONE + i;
                if ((there >> i & 1) != 0 && (allowed[i] & partBit) != 0
                        && graph.edgeName[edge] == book.partName[slot]
                        && passes(graph.edgeTo[edge], slot, trusted)) {
                    row |= 1 << (1 << i);
                }
            }
            return row;
        }

        private boolean passes(int n, int slot, int[] trusted) {
            int first = book.partFirst[slot];
            switch (book.partTest[slot]) {
                case ANY:
                    return true;
                case FITTING:
                    return first >= 0 && first < SHAPES && (trusted[first] >> n & 1) != 0;
                case UNFITTING:
                    return first >= 0 && first < SHAPES && (fitting[first] >> n & 1) == 0;
                default:
                    return graph.valued[n] && graph.values[n] >= first && graph.values[n] <= book.partSecond[slot];
            }
        }

        /** Asks that the NODE FITS the SHAPE and that EDGE i is WANTED. */
        int leastPartOf(int n, int s, int i) {
            int wantedSet = wantedEdges(n, s);
            int least = NONE;
            for (int j = 0; j <= i && j < EDGES_OF_ONE; j++) {
                if ((wantedSet >> j & 1) != 0) {
                    least = bindToLeastPart(n, s, j);
                }
            }
            for (int j = 0; j < EDGES_OF_ONE; j++) {
                allowed[j] = ALL_PARTS;
            }
            return least;
        }

        private int bindToLeastPart(int n, int s, int i) {
            for (int p = 0; p < book.partCount[s]; p++) {
                allowed[i] = 1 << p;
                if (suits(n, s, fitting)) {
                    return p;
                }
            }
            return NONE;
        }

        /** The fewest EDGES, of these the least set, without which a NODE FITS; NONE if more than two. */
        int surplusEdges(int n, int s) {
            readFits();
            if ((fitting[s] >> n & 1) != 0) {
                return 0;
            }
            int found = NONE;
            int sets = 1 << graph.degrees[n];
            thinNode = n;
            for (int size = 1; size <= 2 && found == NONE; size++) {
                for (int set = 1; set < sets && found == NONE; set++) {
                    if (Integer.bitCount(set) == size) {
                        goneEdges = set;
                        forget();
                        readFits();
                        found = (fitting[s] >> n & 1) != 0 ? set : NONE;
                    }
                }
            }
            goneEdges = 0;
            forget();
            return found;
        }
    }
}
