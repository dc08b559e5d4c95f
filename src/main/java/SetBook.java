import java.util.Arrays;

/**
 * A book of sets over trees. Every row is made with the object and used again, so that no call
 * makes anything anew.
 */
public final class SetBook {
    public static final int NONE = -1;
    public static final int FULL = -4;
    public static final int NOTHING = -2000000000;

    private static final int BYTES_A_FEED = 20;
    private static final int KEPT_PLACES = 6;
    private static final int SHEET_MOST = 3000;
    private static final int NUMBER_MOST = 1000000;

    private final Tape tape;
    private final TreeReader treeReader;
    private final SetReader setReader;
    private final Row theSet;
    private final Row[] kept;
    private final byte[] sheet;
    private int sheetLength;
    private Trees trees;
    private Trees spareTrees;

    public SetBook() {
        tape = new Tape();
        treeReader = new TreeReader();
        theSet = new Row();
        kept = new Row[KEPT_PLACES];
        for (int k = 0; k < KEPT_PLACES; k++) {
            kept[k] = new Row();
        }
        setReader = new SetReader();
        sheet = new byte[SHEET_MOST];
        sheetLength = 0;
        trees = new Trees();
        trees.addDimension('t');
        trees.addMark('m');
        trees.settle();
        spareTrees = new Trees();
    }

    public int feed(int a, int b, int c, int d, int e) {
        if (!tape.hasRoom(BYTES_A_FEED)) {
            return FULL;
        }
        tape.add(a);
        tape.add(b);
        tape.add(c);
        tape.add(d);
        tape.add(e);
        return tape.length();
    }

    public int end(int n) {
        if (n < 0 || n > tape.length()) {
            return NONE;
        }
        tape.cut(n);
        return n;
    }

    public int tree() {
        tape.begin();
        boolean right = treeReader.read(tape, spareTrees);
        int answer = right ? spareTrees.membersInAll() : tape.wrong();
        if (right) {
            takeSpareTrees();
        }
        tape.cut(0);
        return answer;
    }

    public int mark() {
        tape.begin();
        int answer = readNumberOfMember();
        tape.cut(0);
        return answer;
    }

    public int set() {
        tape.begin();
        Row found = setReader.read(tape, trees, kept);
        int answer = FULL;
        if (found == null) {
            answer = tape.wrong();
        } else if (!setReader.tooMany()) {
            theSet.copyFrom(found);
            answer = theSet.size;
        }
        tape.cut(0);
        return answer;
    }

    public int keep(int k) {
        if (!isKeptPlace(k) || theSet.width == 0) {
            return NONE;
        }
        kept[k].copyFrom(theSet);
        return theSet.size;
    }

    public int drop(int k) {
        if (!isKeptPlace(k) || kept[k].width == 0) {
            return NONE;
        }
        int size = kept[k].size;
        kept[k].clear();
        return size;
    }

    public int tuple(int i, int dimension) {
        if (!theSet.hasTuple(i) || !theSet.hasDimension(dimension)) {
            return NONE;
        }
        return Row.partOf(theSet.tuples[i], dimension);
    }

    public int shows(int i, int k) {
        if (!theSet.hasTuple(i) || !trees.hasMark(k)) {
            return NOTHING;
        }
        return trees.sumOf(theSet, i, k);
    }

    public int place() {
        tape.begin();
        int answer = readPlace();
        tape.cut(0);
        return answer;
    }

    public int print() {
        if (bytesToPrint() > SHEET_MOST) {
            return FULL;
        }
        sheetLength = 0;
        for (int i = 0; i < theSet.size; i++) {
            writeTuple(theSet.tuples[i]);
        }
        return sheetLength;
    }

    public int printed(int i) {
        return i < 0 || i >= sheetLength ? NONE : sheet[i];
    }

    public int member(int dimension, int k, int what) {
        if (!trees.hasMember(dimension, k)) {
            return NONE;
        }
        int id = Trees.idOf(dimension, k);
        switch (what) {
            case 0:
                return trees.parents[id];
            case 1:
                return trees.kids[id];
            case 2:
                return trees.depths[id];
            case 3:
                return trees.leaves[id];
            default:
                return NONE;
        }
    }

    public int number(int dimension, int k, int mark) {
        if (!trees.hasMember(dimension, k) || !trees.hasMark(mark)) {
            return NOTHING;
        }
        return trees.numberAt(Trees.idOf(dimension, k), mark);
    }

    public int count(int what) {
        switch (what) {
            case 0:
                return trees.dimensions;
            case 1:
                return trees.marks;
            case 2:
                return trees.membersInAll();
            case 3:
                return theSet.size;
            case 4:
                return theSet.width;
            case 5:
                return setsKept();
            case 6:
                return sheetLength;
            default:
                return NONE;
        }
    }

    private static boolean isKeptPlace(int k) {
        return k >= 0 && k < KEPT_PLACES;
    }

    private int setsKept() {
        int sets = 0;
        for (int k = 0; k < KEPT_PLACES; k++) {
            if (kept[k].width > 0) {
                sets++;
            }
        }
        return sets;
    }

    private void takeSpareTrees() {
        Trees old = trees;
        trees = spareTrees;
        spareTrees = old;
        theSet.clear();
        for (int k = 0; k < KEPT_PLACES; k++) {
            kept[k].clear();
        }
    }

    private int readNumberOfMember() {
        int id = trees.readMember(tape);
        if (id < 0 || !tape.skip(' ')) {
            return tape.wrong();
        }
        int at = trees.readMark(tape);
        if (at < 0 || !tape.skip(' ')) {
            return tape.wrong();
        }
        if (tape.endsWith('-')) {
            trees.putNumber(id, at, NOTHING);
        } else {
            int value = readMarkNumber();
            if (value == NOTHING || !tape.isAtEnd()) {
                return tape.wrong();
            }
            trees.putNumber(id, at, value);
        }
        return trees.membersWithNumber(at);
    }

    private int readMarkNumber() {
        int start = tape.at();
        int value = tape.readInt();
        if (value != NOTHING && (value < -NUMBER_MOST || value > NUMBER_MOST)) {
            tape.fail(start);
            return NOTHING;
        }
        return value;
    }

    private int readPlace() {
        int wanted = 0;
        // Without DIMENSIONS no NAME is read: the empty text is a TUPLE then, and any byte is too many.
        for (int n = 0; n < theSet.width; n++) {
            if (n > 0 && !tape.skip('.')) {
                return tape.wrong();
            }
            int start = tape.at();
            int id = trees.readMember(tape);
            if (id < 0) {
                return tape.wrong();
            }
            if (Trees.dimensionOf(id) != theSet.order[n]) {
                tape.fail(start);
                return tape.wrong();
            }
            wanted |= Row.tupleOf(id);
        }
        return tape.isAtEnd() ? theSet.find(wanted) : tape.wrong();
    }

    private int bytesToPrint() {
        int bytes = 0;
        for (int i = 0; i < theSet.size; i++) {
            for (int n = 0; n < theSet.width; n++) {
                bytes += Tape.lengthOf(nameIn(theSet.tuples[i], n)) + 1;
            }
        }
        return bytes;
    }

    private void writeTuple(int tuple) {
        for (int n = 0; n < theSet.width; n++) {
            if (n > 0) {
                writeByte('.');
            }
            writeName(nameIn(tuple, n));
        }
        writeByte('\n');
    }

    private void writeName(long name) {
        for (int shift = 56; shift >= 0; shift -= 8) {
            int letter = (int) (name >>> shift) & 255;
            if (letter != 0) {
                writeByte(letter);
            }
        }
    }

    private void writeByte(int b) {
        if (sheetLength < SHEET_MOST) {
            sheet[sheetLength] = (byte) b;
            sheetLength++;
        }
    }

    private long nameIn(int tuple, int n) {
        int dimension = theSet.order[n];
        return trees.names[Trees.idOf(dimension, Row.partOf(tuple, dimension))];
    }

    /** The words that lead from a MEMBER to others. */
    private enum Act {
        KIDS("kids"), ALL("all"), ENDS("ends"), UP("up"), PATH("path"),
        SIBS("sibs"), NEXT("next"), BACK("back"), DEEP("deep");

        private static final Act[] EVERY = values();
        private final long key;

        Act(String word) {
            key = Tape.keyOf(word);
        }

        static Act named(long word) {
            for (Act act : EVERY) {
                if (act.key == word) {
                    return act;
                }
            }
            return null;
        }
    }

    /** The FUNCTIONS; the letters tell what comes behind the SET: Number, Mark, Int, Act. */
    private enum Function {
        HEAD("head", "N", false), TAIL("tail", "N", false), FILLED("full", "M", false),
        OVER("over", "MI", false), UNDER("under", "MI", false), RISE("rise", "M", false),
        FALL("fall", "M", false), TOP("top", "NM", false), LOW("low", "NM", false),
        WALK("tree", "", true), TURN("turn", "", false), EACH("each", "A", true);

        private static final Function[] EVERY = values();
        private final long key;
        private final String things;
        private final boolean ofOneDimension;

        Function(String word, String things, boolean ofOneDimension) {
            key = Tape.keyOf(word);
            this.things = things;
            this.ofOneDimension = ofOneDimension;
        }

        static Function named(long word) {
            for (Function function : EVERY) {
                if (function.key == word) {
                    return function;
                }
            }
            return null;
        }
    }

    /**
     * THE TAPE and the reading of it. A NAME or a word is held as a long, its letters as bytes, so
     * that two are the same if the longs are; 0 is none.
     */
    private static final class Tape {
        static final int MOST = 2000;
        private static final int LONGEST_NAME = 8;
        private static final int LONGEST_NUMBER = 9;
        private static final int WRONG = -1000;

        private final byte[] bytes;
        private int length;
        private int at;
        private int wrongAt;

        Tape() {
            bytes = new byte[MOST];
        }

        static long keyOf(String word) {
            long key = 0;
            for (int i = 0; i < word.length(); i++) {
                key = key << 8 | word.charAt(i);
            }
            return key;
        }

        static int lengthOf(long key) {
            int letters = 0;
            for (int shift = 0; shift < 64; shift += 8) {
                if (key >>> shift != 0) {
                    letters++;
                }
            }
            return letters;
        }

        boolean hasRoom(int more) {
            return length + more <= MOST;
        }

        void add(int four) {
            for (int shift = 24; shift >= 0; shift -= 8) {
                if (length < MOST) {
                    bytes[length] = (byte) (four >>> shift);
                    length++;
                }
            }
        }

        int length() {
            return length;
        }

        void cut(int n) {
            length = n;
        }

        void begin() {
            at = 0;
            wrongAt = 0;
        }

        int at() {
            return at;
        }

        /** The byte that is next, or NONE behind the last one. */
        int peek() {
            return at >= 0 && at < length ? bytes[at] & 255 : NONE;
        }

        void step() {
            if (at < length) {
                at++;
            }
        }

        boolean skip(int b) {
            if (peek() != b) {
                return fail(at);
            }
            at++;
            return true;
        }

        boolean isAtEnd() {
            return at >= length || fail(at);
        }

        boolean hasMore() {
            return at < length;
        }

        boolean endsWith(int b) {
            return peek() == b && at + 1 == length;
        }

        boolean fail(int place) {
            wrongAt = place;
            return false;
        }

        int wrong() {
            return WRONG - wrongAt;
        }

        /** All letters and digits that stand here; 0 if there are none, or too many for a word. */
        long readWord() {
            int start = at;
            long key = 0;
            while (at < length && isLetterOrDigit(peek())) {
                key = key << 8 | peek();
                at++;
            }
            return at - start > LONGEST_NAME ? 0 : key;
        }

        /** The NAME that stands here; 0 if there is none. */
        long readName() {
            int start = at;
            if (!isLetter(peek())) {
                fail(start);
                return 0;
            }
            long key = readWord();
            if (key == 0) {
                fail(start + LONGEST_NAME);
            }
            return key;
        }

        /** The NUMBER that stands here; NOTHING if there is none. */
        int readNumber() {
            if (!isDigit(peek())) {
                fail(at);
                return NOTHING;
            }
            int most = peek() == '0' ? 1 : LONGEST_NUMBER;
            int value = 0;
            for (int digits = 0; digits < most && isDigit(peek()); digits++) {
                value = value * 10 + peek() - '0';
                at++;
            }
            if (isDigit(peek())) {
                fail(at);
                return NOTHING;
            }
            return value;
        }

        /** The INT that stands here; NOTHING if there is none. */
        int readInt() {
            if (peek() != '-') {
                return readNumber();
            }
            at++;
            if (peek() == '0') {
                fail(at);
                return NOTHING;
            }
            int value = readNumber();
            return value == NOTHING ? NOTHING : -value;
        }

        private static boolean isLetter(int b) {
            return b >= 'a' && b <= 'z';
        }

        private static boolean isDigit(int b) {
            return b >= '0' && b <= '9';
        }

        private static boolean isLetterOrDigit(int b) {
            return b >= 'a' && b <= 'z' || b >= '0' && b <= '9';
        }
    }

    /** The DIMENSIONS with their MEMBERS, and the MARKS. An id tells a MEMBER of any DIMENSION. */
    private static final class Trees {
        static final int DIMENSIONS = 4;
        static final int MEMBERS = 30;
        static final int MARKS = 3;
        static final int DEEPEST = 6;
        private static final int ID_BITS = 5;
        private static final int IDS = DIMENSIONS << ID_BITS;

        int dimensions;
        int marks;
        final int[] sizes;
        final long[] names;
        final int[] parents;
        final int[] depths;
        final int[] kids;
        final int[] leaves;
        /** How many all of a MEMBER has, and its place in all of the ROOT. */
        final int[] spans;
        final int[] ranks;
        /** The MEMBERS in the order of all of the ROOT. */
        final int[] walk;
        private final long[] markNames;
        private final int[] numbers;

        Trees() {
            sizes = new int[DIMENSIONS];
            names = new long[IDS];
            parents = new int[IDS];
            depths = new int[IDS];
            kids = new int[IDS];
            leaves = new int[IDS];
            spans = new int[IDS];
            ranks = new int[IDS];
            walk = new int[IDS];
            markNames = new long[MARKS];
            numbers = new int[MARKS * IDS];
            Arrays.fill(numbers, NOTHING);
        }

        static int idOf(int dimension, int k) {
            return dimension << ID_BITS | k;
        }

        static int dimensionOf(int id) {
            return id >> ID_BITS;
        }

        static int placeOf(int id) {
            return id & (1 << ID_BITS) - 1;
        }

        void clear() {
            dimensions = 0;
            marks = 0;
            Arrays.fill(numbers, NOTHING);
        }

        boolean hasDimension(int dimension) {
            return dimension >= 0 && dimension < dimensions;
        }

        boolean hasMember(int dimension, int k) {
            return hasDimension(dimension) && k >= 0 && k < sizes[dimension];
        }

        boolean hasMark(int k) {
            return k >= 0 && k < marks;
        }

        int membersInAll() {
            int all = 0;
            for (int d = 0; d < dimensions; d++) {
                all += sizes[d];
            }
            return all;
        }

        boolean hasRoomForMember() {
            return dimensions > 0 && sizes[dimensions - 1] < MEMBERS;
        }

        void addDimension(long name) {
            if (dimensions < DIMENSIONS) {
                dimensions++;
                sizes[dimensions - 1] = 0;
                addMember(name, NONE);
            }
        }

        /** Puts a MEMBER into the last DIMENSION, right under its MEMBER parent. */
        void addMember(long name, int parent) {
            if (!hasRoomForMember()) {
                return;
            }
            int dimension = dimensions - 1;
            int id = idOf(dimension, sizes[dimension]);
            names[id] = name;
            parents[id] = parent;
            depths[id] = parent < 0 ? 0 : depths[idOf(dimension, parent)] + 1;
            sizes[dimension]++;
        }

        void addMark(long name) {
            if (marks < MARKS) {
                markNames[marks] = name;
                marks++;
            }
        }

        /** Counts what lies under each MEMBER, once all are there. */
        void settle() {
            for (int d = 0; d < dimensions; d++) {
                countUnder(d);
                layWalk(d);
            }
        }

        private void countUnder(int dimension) {
            int root = idOf(dimension, 0);
            for (int id = root; id < root + sizes[dimension]; id++) {
                kids[id] = 0;
                leaves[id] = 0;
                spans[id] = 1;
            }
            // A parent is told before its MEMBERS: backwards, each one is whole when it is added.
            for (int id = root + sizes[dimension] - 1; id >= root; id--) {
                if (kids[id] == 0) {
                    leaves[id] = 1;
                }
                if (parents[id] >= 0) {
                    int above = idOf(dimension, parents[id]);
                    kids[above]++;
                    leaves[above] += leaves[id];
                    spans[above] += spans[id];
                }
            }
        }

        private void layWalk(int dimension) {
            int root = idOf(dimension, 0);
            // Until the walk is laid, each place of it holds the rank that is next under a MEMBER.
            for (int k = 0; k < sizes[dimension]; k++) {
                int id = root + k;
                int rank = 0;
                if (parents[id] >= 0) {
                    int above = idOf(dimension, parents[id]);
                    rank = walk[above];
                    walk[above] += spans[id];
                }
                ranks[id] = rank;
                walk[id] = rank + 1;
            }
            for (int k = 0; k < sizes[dimension]; k++) {
                walk[root + ranks[root + k]] = k;
            }
        }

        int findMember(long name) {
            for (int d = 0; d < dimensions; d++) {
                int k = findIn(d, name);
                if (k >= 0) {
                    return idOf(d, k);
                }
            }
            return NONE;
        }

        int findIn(int dimension, long name) {
            if (!hasDimension(dimension)) {
                return NONE;
            }
            int root = idOf(dimension, 0);
            for (int k = 0; k < sizes[dimension]; k++) {
                if (names[root + k] == name) {
                    return k;
                }
            }
            return NONE;
        }

        int findMark(long name) {
            for (int k = 0; k < marks; k++) {
                if (markNames[k] == name) {
                    return k;
                }
            }
            return NONE;
        }

        int readMember(Tape text) {
            int start = text.at();
            long name = text.readName();
            if (name == 0) {
                return NONE;
            }
            int id = findMember(name);
            if (id < 0) {
                text.fail(start);
            }
            return id;
        }

        int readMark(Tape text) {
            int start = text.at();
            long name = text.readName();
            if (name == 0) {
                return NONE;
            }
            int k = findMark(name);
            if (k < 0) {
                text.fail(start);
            }
            return k;
        }

        int numberAt(int id, int k) {
            return numbers[k * IDS + id];
        }

        void putNumber(int id, int k, int value) {
            numbers[k * IDS + id] = value;
        }

        int membersWithNumber(int k) {
            int some = 0;
            for (int d = 0; d < dimensions; d++) {
                for (int m = 0; m < sizes[d]; m++) {
                    if (numberAt(idOf(d, m), k) != NOTHING) {
                        some++;
                    }
                }
            }
            return some;
        }

        /** What TUPLE i of a row shows at MARK k; NOTHING if it shows none. */
        int sumOf(Row row, int i, int k) {
            int sum = 0;
            for (int n = 0; n < row.width; n++) {
                int dimension = row.order[n];
                int value = numberAt(idOf(dimension, Row.partOf(row.tuples[i], dimension)), k);
                if (value == NOTHING) {
                    return NOTHING;
                }
                sum += value;
            }
            return sum;
        }
    }

    /** Reads a TREE TEXT. */
    private static final class TreeReader {
        private static final long DIM = 'd' << 16 | 'i' << 8 | 'm';
        private static final long MEM = 'm' << 16 | 'e' << 8 | 'm';
        private static final long MAR = 'm' << 16 | 'a' << 8 | 'r';

        private Tape text;

        boolean read(Tape from, Trees into) {
            text = from;
            into.clear();
            for (int line = 0; line < Tape.MOST && text.hasMore(); line++) {
                if (!readLine(into)) {
                    return false;
                }
            }
            if (into.marks == 0) {
                return text.fail(text.at());
            }
            into.settle();
            return true;
        }

        private boolean readLine(Trees into) {
            int start = text.at();
            long word = text.readWord();
            if (!mayStand(word, into)) {
                return text.fail(start);
            }
            if (!text.skip(' ')) {
                return false;
            }
            long name = readNewName(into);
            if (name == 0) {
                return false;
            }
            if (word == DIM) {
                into.addDimension(name);
            } else if (word == MAR) {
                into.addMark(name);
            } else if (!readParent(into, name)) {
                return false;
            }
            return text.skip('\n');
        }

        private static boolean mayStand(long word, Trees into) {
            if (word == DIM) {
                return into.marks == 0 && into.dimensions < Trees.DIMENSIONS;
            }
            if (word == MEM) {
                return into.marks == 0 && into.hasRoomForMember();
            }
            return word == MAR && into.dimensions > 0 && into.marks < Trees.MARKS;
        }

        private long readNewName(Trees into) {
            int start = text.at();
            long name = text.readName();
            if (name == 0) {
                return 0;
            }
            boolean isWord = name == DIM || name == MEM || name == MAR;
            if (isWord || into.findMember(name) >= 0 || into.findMark(name) >= 0) {
                text.fail(start);
                return 0;
            }
            return name;
        }

        private boolean readParent(Trees into, long name) {
            if (!text.skip(' ')) {
                return false;
            }
            int start = text.at();
            long above = text.readName();
            if (above == 0) {
                return false;
            }
            int dimension = into.dimensions - 1;
            int parent = into.findIn(dimension, above);
            if (parent < 0 || into.depths[Trees.idOf(dimension, parent)] >= Trees.DEEPEST) {
                return text.fail(start);
            }
            into.addMember(name, parent);
            return true;
        }
    }

    /**
     * TUPLES of the same DIMENSIONS. A TUPLE is an int in which each DIMENSION has bits of its own,
     * so that two of one row are the same if the ints are. A row without DIMENSIONS is no SET.
     */
    private static final class Row {
        static final int MOST = 200;
        private static final int BITS = 5;

        final int[] tuples;
        int size;
        final int[] order;
        int width;

        Row() {
            tuples = new int[MOST];
            order = new int[Trees.DIMENSIONS];
        }

        static int tupleOf(int id) {
            return Trees.placeOf(id) << BITS * Trees.dimensionOf(id);
        }

        static int partOf(int tuple, int dimension) {
            return tuple >> BITS * dimension & (1 << BITS) - 1;
        }

        void clear() {
            size = 0;
            width = 0;
        }

        void copyFrom(Row other) {
            System.arraycopy(other.tuples, 0, tuples, 0, other.size);
            System.arraycopy(other.order, 0, order, 0, other.width);
            size = other.size;
            width = other.width;
        }

        boolean hasTuple(int i) {
            return i >= 0 && i < size;
        }

        boolean hasDimension(int dimension) {
            for (int n = 0; n < width; n++) {
                if (order[n] == dimension) {
                    return true;
                }
            }
            return false;
        }

        boolean sharesDimension(Row other) {
            for (int n = 0; n < other.width; n++) {
                if (hasDimension(other.order[n])) {
                    return true;
                }
            }
            return false;
        }

        boolean hasSameOrder(Row other) {
            if (width != other.width) {
                return false;
            }
            for (int n = 0; n < width; n++) {
                if (order[n] != other.order[n]) {
                    return false;
                }
            }
            return true;
        }

        int find(int tuple) {
            for (int i = 0; i < size; i++) {
                if (tuples[i] == tuple) {
                    return i;
                }
            }
            return NONE;
        }

        void beginOf(int dimension) {
            size = 0;
            width = 1;
            order[0] = dimension;
        }

        /** Answers whether there was room. */
        boolean append(int tuple) {
            if (size >= MOST) {
                return false;
            }
            tuples[size] = tuple;
            size++;
            return true;
        }

        boolean appendAll(Row other) {
            for (int i = 0; i < other.size; i++) {
                if (!append(other.tuples[i])) {
                    return false;
                }
            }
            return true;
        }

        /** Each of these with each of the other's behind it; answers whether there was room. */
        boolean multiply(Row other) {
            for (int n = 0; n < other.width && width < Trees.DIMENSIONS; n++) {
                order[width] = other.order[n];
                width++;
            }
            int product = size * other.size;
            if (product > MOST) {
                size = 0;
                return false;
            }
            // Backwards, since what is written never lies before what is still to be read.
            for (int i = size - 1; i >= 0; i--) {
                int left = tuples[i];
                for (int j = other.size - 1; j >= 0; j--) {
                    tuples[i * other.size + j] = left | other.tuples[j];
                }
            }
            size = product;
            return true;
        }

        void keepFirst(int many) {
            size = Math.min(size, many);
        }

        void keepLast(int many) {
            if (many < size) {
                System.arraycopy(tuples, size - many, tuples, 0, many);
                size = many;
            }
        }

        void turnRound() {
            for (int i = 0, j = size - 1; i < j; i++, j--) {
                int first = tuples[i];
                tuples[i] = tuples[j];
                tuples[j] = first;
            }
        }
    }

    /** Joins two rows by + - & ^, with a table of slots to tell what a row has. */
    private static final class Joiner {
        private static final int SLOTS = 512;
        private static final int SPREAD = 0x9E3779B1;
        private static final int SHIFT = 23;

        private final int[] slots;
        /** A slot is taken if its turn is this one: so the table need never be emptied. */
        private final int[] turns;
        private int turn;
        private final Row spare;

        Joiner() {
            slots = new int[SLOTS];
            turns = new int[SLOTS];
            spare = new Row();
        }

        static boolean isSign(int b) {
            return b == '+' || b == '-' || b == '&' || b == '^';
        }

        /** Leaves what the sign makes in the first row; answers whether there was room. */
        boolean join(Row first, Row second, int sign) {
            switch (sign) {
                case '+':
                    sift(second, first, false);
                    return first.appendAll(second);
                case '-':
                    sift(first, second, false);
                    return true;
                case '&':
                    sift(first, second, true);
                    return true;
                default:
                    spare.copyFrom(first);
                    sift(first, second, false);
                    sift(second, spare, false);
                    return first.appendAll(second);
            }
        }

        /** Of a row, only those stay that the other has, or has not. */
        private void sift(Row row, Row other, boolean wanted) {
            learn(other);
            int stay = 0;
            for (int i = 0; i < row.size; i++) {
                int tuple = row.tuples[i];
                if (isTaken(slotFor(tuple)) == wanted) {
                    row.tuples[stay] = tuple;
                    stay++;
                }
            }
            row.size = stay;
        }

        private void learn(Row row) {
            turn++;
            for (int i = 0; i < row.size; i++) {
                int slot = slotFor(row.tuples[i]);
                slots[slot] = row.tuples[i];
                turns[slot] = turn;
            }
        }

        private boolean isTaken(int slot) {
            return turns[slot] == turn;
        }

        /** The slot that holds a TUPLE, or the free one where it would be. */
        private int slotFor(int tuple) {
            int slot = tuple * SPREAD >>> SHIFT;
            // A row is far shorter than the table, so there is always a free one.
            for (int tries = 0; tries < SLOTS; tries++) {
                if (!isTaken(slot) || slots[slot] == tuple) {
                    return slot;
                }
                slot = slot + 1 & SLOTS - 1;
            }
            return slot;
        }
    }

    /** Puts the TUPLES of a row in order by what they show. */
    private static final class Sorter {
        private static final int PLACES = 256;

        private long[] keys;
        private long[] spareKeys;
        private final int[] showing;
        private final int[] silent;

        Sorter() {
            keys = new long[Row.MOST];
            spareKeys = new long[Row.MOST];
            showing = new int[Row.MOST];
            silent = new int[Row.MOST];
        }

        /** Those that show none come last, as they were; answers how many show something. */
        int sort(Row row, Trees trees, int k, boolean falling) {
            int some = 0;
            int none = 0;
            for (int i = 0; i < row.size; i++) {
                int sum = trees.sumOf(row, i, k);
                if (sum == NOTHING) {
                    silent[none] = row.tuples[i];
                    none++;
                } else {
                    // With its place in the key, no two are equal and equal sums stay as they were.
                    keys[some] = (falling ? -(long) sum : sum) * PLACES + some;
                    showing[some] = row.tuples[i];
                    some++;
                }
            }
            sortKeys(some);
            for (int i = 0; i < some; i++) {
                row.tuples[i] = showing[(int) (keys[i] & PLACES - 1)];
            }
            System.arraycopy(silent, 0, row.tuples, some, none);
            return some;
        }

        private void sortKeys(int many) {
            for (int run = 1; run < many; run *= 2) {
                for (int from = 0; from < many; from += 2 * run) {
                    int middle = Math.min(from + run, many);
                    merge(from, middle, Math.min(middle + run, many));
                }
                long[] merged = spareKeys;
                spareKeys = keys;
                keys = merged;
            }
        }

        private void merge(int from, int middle, int to) {
            int left = from;
            int right = middle;
            for (int i = from; i < to; i++) {
                if (left < middle && (right >= to || keys[left] < keys[right])) {
                    spareKeys[i] = keys[left];
                    left++;
                } else {
                    spareKeys[i] = keys[right];
                    right++;
                }
            }
        }
    }

    /** The MEMBERS of one DIMENSION that ACTS lead to, each once, as it comes first. */
    private static final class Kin {
        private final int[] found;
        private int many;
        private int seen;
        private Trees trees;
        private int dimension;

        Kin() {
            found = new int[Trees.MEMBERS];
        }

        void begin(Trees in, int of) {
            trees = in;
            dimension = of;
            many = 0;
            seen = 0;
        }

        void add(int k) {
            if ((seen >> k & 1) == 0 && many < Trees.MEMBERS) {
                seen |= 1 << k;
                found[many] = k;
                many++;
            }
        }

        void addAct(Act act, int k) {
            int root = Trees.idOf(dimension, 0);
            switch (act) {
                case KIDS:
                    addUnder(k);
                    break;
                case ALL:
                    addWalk(k, false);
                    break;
                case ENDS:
                    addWalk(k, true);
                    break;
                case UP:
                    addIfAny(trees.parents[root + k]);
                    break;
                case PATH:
                    addPath(k);
                    break;
                case SIBS:
                    addUnder(trees.parents[root + k]);
                    break;
                case NEXT:
                    addIfAny(beside(k, 1));
                    break;
                case BACK:
                    addIfAny(beside(k, -1));
                    break;
                default:
                    addDeep(trees.depths[root + k]);
                    break;
            }
        }

        /** Makes a row of what was found. */
        void fill(Row row) {
            row.beginOf(dimension);
            for (int i = 0; i < many; i++) {
                row.append(Row.tupleOf(Trees.idOf(dimension, found[i])));
            }
        }

        /** Puts a row of this DIMENSION in the order of all of the ROOT. */
        void sortByWalk(Row row) {
            int have = 0;
            for (int i = 0; i < row.size; i++) {
                have |= 1 << Row.partOf(row.tuples[i], dimension);
            }
            int root = Trees.idOf(dimension, 0);
            for (int rank = 0; rank < trees.sizes[dimension]; rank++) {
                int k = trees.walk[root + rank];
                if ((have >> k & 1) != 0) {
                    add(k);
                }
            }
            fill(row);
        }

        private void addIfAny(int k) {
            if (k >= 0) {
                add(k);
            }
        }

        /** Under NONE there is the ROOT alone: so its sibs need no rule of their own. */
        private void addUnder(int parent) {
            int root = Trees.idOf(dimension, 0);
            for (int k = 0; k < trees.sizes[dimension]; k++) {
                if (trees.parents[root + k] == parent) {
                    add(k);
                }
            }
        }

        private void addWalk(int k, boolean leavesAlone) {
            int root = Trees.idOf(dimension, 0);
            int first = trees.ranks[root + k];
            for (int rank = first; rank < first + trees.spans[root + k]; rank++) {
                int next = trees.walk[root + rank];
                if (!leavesAlone || trees.kids[root + next] == 0) {
                    add(next);
                }
            }
        }

        private void addPath(int k) {
            int root = Trees.idOf(dimension, 0);
            int above = k;
            for (int step = 0; step <= Trees.DEEPEST && above >= 0; step++) {
                add(above);
                above = trees.parents[root + above];
            }
        }

        private int beside(int k, int way) {
            int root = Trees.idOf(dimension, 0);
            for (int j = k + way; j >= 0 && j < trees.sizes[dimension]; j += way) {
                if (trees.parents[root + j] == trees.parents[root + k]) {
                    return j;
                }
            }
            return NONE;
        }

        private void addDeep(int depth) {
            int root = Trees.idOf(dimension, 0);
            for (int k = 0; k < trees.sizes[dimension]; k++) {
                if (trees.depths[root + k] == depth) {
                    add(k);
                }
            }
        }
    }

    /**
     * Reads a SET and makes it on the way. Each level of { and FUNCTIONS has three rows of its own:
     * the SET so far, the ITEM so far and the PART read last.
     */
    private static final class SetReader {
        private static final int DEEPEST = 5;

        private final Row[] sets;
        private final Row[] items;
        private final Row[] parts;
        private final Joiner joiner;
        private final Sorter sorter;
        private final Kin kin;
        private Tape text;
        private Trees trees;
        private Row[] kept;
        private boolean tooMany;
        /** The things of the FUNCTION read last. */
        private int howMany;
        private int markAt;
        private int bound;
        private Act act;

        SetReader() {
            sets = new Row[DEEPEST + 1];
            items = new Row[DEEPEST + 1];
            parts = new Row[DEEPEST + 1];
            for (int level = 0; level <= DEEPEST; level++) {
                sets[level] = new Row();
                items[level] = new Row();
                parts[level] = new Row();
            }
            joiner = new Joiner();
            sorter = new Sorter();
            kin = new Kin();
        }

        /** The SET that the text is, or null if it is WRONG. */
        Row read(Tape from, Trees over, Row[] known) {
            text = from;
            trees = over;
            kept = known;
            tooMany = false;
            return readSet(0) && text.isAtEnd() ? sets[0] : null;
        }

        /** A text with too many TUPLES is read on all the same: it may still be WRONG. */
        boolean tooMany() {
            return tooMany;
        }

        private boolean readSet(int level) {
            if (level < 0 || level > DEEPEST) {
                return text.fail(text.at());
            }
            if (!readItem(level)) {
                return false;
            }
            Row first = items[level];
            items[level] = sets[level];
            sets[level] = first;
            for (int n = 0; n < Tape.MOST && Joiner.isSign(text.peek()); n++) {
                int sign = text.peek();
                text.step();
                int start = text.at();
                if (!readItem(level)) {
                    return false;
                }
                if (!first.hasSameOrder(items[level])) {
                    return text.fail(start);
                }
                if (!joiner.join(first, items[level], sign)) {
                    tooMany = true;
                }
            }
            return true;
        }

        private boolean readItem(int level) {
            if (!readPart(level)) {
                return false;
            }
            Row first = parts[level];
            parts[level] = items[level];
            items[level] = first;
            for (int n = 0; n < Tape.MOST && text.peek() == '*'; n++) {
                text.step();
                int start = text.at();
                if (!readPart(level)) {
                    return false;
                }
                if (first.sharesDimension(parts[level])) {
                    return text.fail(start);
                }
                if (!first.multiply(parts[level])) {
                    tooMany = true;
                }
            }
            return true;
        }

        private boolean readPart(int level) {
            switch (text.peek()) {
                case '#':
                    return readKept(level);
                case '{':
                    return readBraces(level);
                default:
                    return readNamed(level);
            }
        }

        private boolean readKept(int level) {
            int start = text.at();
            text.step();
            int k = text.peek() - '0';
            if (k < 0 || k >= kept.length) {
                return text.fail(text.at());
            }
            if (kept[k].width == 0) {
                return text.fail(start);
            }
            text.step();
            parts[level].copyFrom(kept[k]);
            return true;
        }

        private boolean readBraces(int level) {
            if (level >= DEEPEST) {
                return text.fail(text.at());
            }
            text.step();
            if (!readSet(level + 1) || !text.skip('}')) {
                return false;
            }
            liftSet(level);
            return true;
        }

        private boolean readNamed(int level) {
            int start = text.at();
            long name = text.readName();
            if (name == 0) {
                return false;
            }
            int id = trees.findMember(name);
            Function function = Function.named(name);
            if (function != null && (id < 0 || text.peek() == '(')) {
                return level < DEEPEST ? readFunction(level, function) : text.fail(start);
            }
            if (id < 0) {
                return text.fail(start);
            }
            return readMemberPart(level, id);
        }

        private boolean readMemberPart(int level, int id) {
            kin.begin(trees, Trees.dimensionOf(id));
            if (text.peek() == '.') {
                text.step();
                if (!readAct()) {
                    return false;
                }
                kin.addAct(act, Trees.placeOf(id));
            } else {
                kin.add(Trees.placeOf(id));
            }
            kin.fill(parts[level]);
            return true;
        }

        private boolean readFunction(int level, Function function) {
            if (!text.skip('(')) {
                return false;
            }
            int start = text.at();
            if (!readSet(level + 1)) {
                return false;
            }
            if (function.ofOneDimension && sets[level + 1].width != 1) {
                return text.fail(start);
            }
            if (!readThings(function) || !text.skip(')')) {
                return false;
            }
            apply(function, sets[level + 1]);
            liftSet(level);
            return true;
        }

        /** Makes the SET of the level below the PART of this one. */
        private void liftSet(int level) {
            Row below = sets[level + 1];
            sets[level + 1] = parts[level];
            parts[level] = below;
        }

        private boolean readThings(Function function) {
            boolean right = true;
            for (int i = 0; right && i < function.things.length(); i++) {
                if (!text.skip(',')) {
                    return false;
                }
                switch (function.things.charAt(i)) {
                    case 'N':
                        howMany = text.readNumber();
                        right = howMany != NOTHING;
                        break;
                    case 'M':
                        markAt = trees.readMark(text);
                        right = markAt >= 0;
                        break;
                    case 'I':
                        bound = text.readInt();
                        right = bound != NOTHING;
                        break;
                    default:
                        right = readAct();
                        break;
                }
            }
            return right;
        }

        private boolean readAct() {
            int start = text.at();
            act = Act.named(text.readWord());
            return act != null || text.fail(start);
        }

        private void apply(Function function, Row row) {
            switch (function) {
                case HEAD:
                    row.keepFirst(howMany);
                    break;
                case TAIL:
                    row.keepLast(howMany);
                    break;
                case FILLED:
                case OVER:
                case UNDER:
                    keepShowing(function, row);
                    break;
                case RISE:
                    sorter.sort(row, trees, markAt, false);
                    break;
                case FALL:
                    sorter.sort(row, trees, markAt, true);
                    break;
                case TOP:
                    row.keepFirst(Math.min(howMany, sorter.sort(row, trees, markAt, true)));
                    break;
                case LOW:
                    row.keepFirst(Math.min(howMany, sorter.sort(row, trees, markAt, false)));
                    break;
                case WALK:
                    kin.begin(trees, row.order[0]);
                    kin.sortByWalk(row);
                    break;
                case TURN:
                    row.turnRound();
                    break;
                default:
                    goEach(row);
                    break;
            }
        }

        private void keepShowing(Function function, Row row) {
            int stay = 0;
            for (int i = 0; i < row.size; i++) {
                int sum = trees.sumOf(row, i, markAt);
                boolean outside = function == Function.OVER && sum <= bound
                        || function == Function.UNDER && sum >= bound;
                if (sum != NOTHING && !outside) {
                    row.tuples[stay] = row.tuples[i];
                    stay++;
                }
            }
            row.size = stay;
        }

        private void goEach(Row row) {
            int dimension = row.order[0];
            kin.begin(trees, dimension);
            for (int i = 0; i < row.size; i++) {
                kin.addAct(act, Row.partOf(row.tuples[i], dimension));
            }
            kin.fill(row);
        }
    }
}
