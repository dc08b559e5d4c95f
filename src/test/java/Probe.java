import java.nio.charset.StandardCharsets;
import java.util.function.Supplier;

/** A SetBook that is fed with texts, and the count of the answers that were not due. */
final class Probe {
    /** Two DIMENSIONS, t and p, and two MARKS, m and r. */
    static final String SMALL = "dim t\nmem a t\nmem b t\nmem c a\nmem d a\n"
            + "dim p\nmem x p\nmem y p\nmar m\nmar r\n";
    /** What no count, place or number ever is. */
    static final int[] FAR = {-1, Integer.MIN_VALUE, Integer.MAX_VALUE, 1 << 30, -(1 << 30), 1 << 16, 1 << 8};

    private static final int CALLS_PROMISED = 512;

    /** The calls that read THE TAPE. */
    enum Text {
        TREE, MARK, SET, PLACE
    }

    private static int asked = 0;
    private static int wrong = 0;
    private static String sentence = "";
    private static int askedBeforeSentence = 0;

    private final SetBook book = new SetBook();
    private int calls = 0;

    static Probe small() {
        Probe probe = new Probe();
        probe.tree(SMALL, 8);
        return probe;
    }

    /** The small trees with a 5, b 2, c 7, x 1 and y -3 at m, and d 1 at r. */
    static Probe marked() {
        Probe probe = small();
        String[] lines = {"a m 5", "b m 2", "c m 7", "x m 1", "y m -3"};
        for (int i = 0; i < lines.length; i++) {
            probe.mark(lines[i], i + 1);
        }
        probe.mark("d r 1", 1);
        return probe;
    }

    /** The marked trees with the SETS a at 0 and c.x, d.x at 3 KEPT, b printed, and THE SET a.x, a.y, b.x, b.y. */
    static Probe busy() {
        Probe probe = marked();
        probe.set("a", 1);
        due("keep(0)", probe.book().keep(0), 1);
        probe.set("a.kids*x", 2);
        due("keep(3)", probe.book().keep(3), 2);
        probe.set("b", 1);
        due("print()", probe.book().print(), 2);
        probe.set("t.kids*p.kids", 4);
        return probe;
    }

    /** A DIMENSION with a ROOT and so many MEMBERS right under it, all named from the ROOT's name. */
    static String wide(String root, int under) {
        StringBuilder text = new StringBuilder("dim " + root + "\n");
        for (int i = 0; i < under; i++) {
            text.append("mem ").append(root).append(i).append(' ').append(root).append('\n');
        }
        return text.toString();
    }

    static int wrongAt(int place) {
        return -1000 - place;
    }

    /** The sentence of the document that the answers from here on are held against. */
    static void sentence(String words) {
        closeSentence();
        sentence = words;
        askedBeforeSentence = asked;
    }

    private static void closeSentence() {
        if (!sentence.isEmpty() && asked == askedBeforeSentence) {
            wrong++;
            System.out.println("no answer was held against: " + sentence);
        }
    }

    static void due(String call, Object got, Object want) {
        asked++;
        if (!want.equals(got)) {
            wrong++;
            String against = sentence.isEmpty() ? "" : " [" + sentence + "]";
            System.out.println(call + " answered " + shown(got) + ", due is " + shown(want) + against);
        }
    }

    static void finish() {
        closeSentence();
        System.out.println(asked + " answers looked at, " + wrong + " not as due");
        if (wrong != 0 || asked == 0) {
            System.exit(1);
        }
    }

    static String shown(Object o) {
        return String.valueOf(o).replace("\n", "|");
    }

    /** The five ints of a text's 20 bytes from a place on, with 0 behind its end. */
    static int[] five(String text, int from) {
        byte[] bytes = text.getBytes(StandardCharsets.ISO_8859_1);
        int[] ints = new int[5];
        for (int j = 0; j < 20; j++) {
            int b = from + j < bytes.length ? bytes[from + j] & 255 : 0;
            ints[j / 4] = ints[j / 4] << 8 | b;
        }
        return ints;
    }

    /** Rows of a text and the place where it is WRONG, each on an object of its own that it must not change. */
    static void wrongs(Supplier<Probe> maker, Text call, String... rows) {
        for (int i = 0; i + 1 < rows.length; i += 2) {
            Probe probe = maker.get();
            String before = probe.state();
            probe.ask(call, rows[i], wrongAt(Integer.parseInt(rows[i + 1])));
            due("the state behind " + call + " of " + shown(rows[i]), probe.state(), before);
        }
    }

    /** Rows of a text and the TUPLES that it makes, each on an object of its own. */
    static void makes(Supplier<Probe> maker, String... rows) {
        for (int i = 0; i + 1 < rows.length; i += 2) {
            maker.get().makes(rows[i], rows[i + 1]);
        }
    }

    /** The object, for one call more: a test may not ask for more than the document promises to answer. */
    SetBook book() {
        calls++;
        if (calls > CALLS_PROMISED) {
            throw new IllegalStateException("a test makes more calls on an object than are promised");
        }
        return book;
    }

    int callsLeft() {
        return CALLS_PROMISED - calls;
    }

    /** Puts a text onto the tape, which is empty. */
    void lay(String text) {
        for (int i = 0; i < text.length(); i += 20) {
            int[] five = five(text, i);
            book().feed(five[0], five[1], five[2], five[3], five[4]);
        }
        book().end(text.length());
    }

    int call(Text call) {
        switch (call) {
            case TREE:
                return book().tree();
            case MARK:
                return book().mark();
            case SET:
                return book().set();
            default:
                return book().place();
        }
    }

    void ask(Text call, String text, int want) {
        lay(text);
        due(call + " of " + shown(text), call(call), want);
    }

    void tree(String text, int want) {
        ask(Text.TREE, text, want);
    }

    void mark(String text, int want) {
        ask(Text.MARK, text, want);
    }

    void set(String text, int want) {
        ask(Text.SET, text, want);
    }

    void place(String text, int want) {
        ask(Text.PLACE, text, want);
    }

    /** A text is a SET with these TUPLES, told with blanks between. */
    void makes(String text, String tuples) {
        set(text, tuples.isEmpty() ? 0 : tuples.split(" ").length);
        due("the SET of " + shown(text), tuples(), tuples);
    }

    String tuples() {
        book().print();
        return sheet().trim().replace('\n', ' ');
    }

    String sheet() {
        StringBuilder text = new StringBuilder();
        int length = book().count(6);
        for (int i = 0; i < length; i++) {
            text.append((char) book().printed(i));
        }
        return text.toString();
    }

    void counts(int what, int want) {
        due("count(" + what + ")", book().count(what), want);
    }

    /** All that can be looked at without changing it, of a small book. */
    String state() {
        StringBuilder told = new StringBuilder();
        for (int what = 0; what < 7; what++) {
            told.append(book().count(what)).append(' ');
        }
        for (int d = 0; d < book().count(0); d++) {
            tellMembers(told.append("/ "), d);
        }
        int marks = book().count(1);
        int tuples = book().count(3);
        for (int i = 0; i < tuples; i++) {
            told.append("( ");
            for (int d = 0; d < 4; d++) {
                told.append(book().tuple(i, d)).append(' ');
            }
            for (int k = 0; k < marks; k++) {
                told.append(book().shows(i, k)).append(' ');
            }
        }
        return told + sheet();
    }

    private void tellMembers(StringBuilder told, int d) {
        int marks = book().count(1);
        for (int k = 0; book().member(d, k, 2) >= 0; k++) {
            told.append(book().member(d, k, 0)).append(' ');
            for (int mark = 0; mark < marks; mark++) {
                told.append(book().number(d, k, mark)).append(' ');
            }
        }
    }
}
