import java.nio.charset.StandardCharsets;

/** A SetBook that is fed with texts, and the count of the answers that were not due. */
final class Probe {
    /** Two DIMENSIONS, t and p, and two MARKS, m and r. */
    static final String SMALL = "dim t\nmem a t\nmem b t\nmem c a\nmem d a\n"
            + "dim p\nmem x p\nmem y p\nmar m\nmar r\n";

    private static int asked = 0;
    private static int wrong = 0;

    final SetBook book = new SetBook();

    static Probe small() {
        Probe probe = new Probe();
        probe.tree(SMALL, 8);
        return probe;
    }

    /** The small trees with a 5, b 2, c 7, x 1 and y -3 at m, and d 1 at r. */
    static Probe marked() {
        Probe probe = small();
        String[] lines = {"a m 5", "b m 2", "c m 7", "x m 1", "y m -3"};
        for (int i = 0; i < lines.length; i++) {
            probe.mark(lines[i], i + 1);
        }
        probe.mark("d r 1", 1);
        return probe;
    }

    /** A DIMENSION with a ROOT and so many MEMBERS right under it, all named from the ROOT's name. */
    static String wide(String root, int under) {
        StringBuilder text = new StringBuilder("dim " + root + "\n");
        for (int i = 0; i < under; i++) {
            text.append("mem ").append(root).append(i).append(' ').append(root).append('\n');
        }
        return text.toString();
    }

    static int wrongAt(int place) {
        return -1000 - place;
    }

    static void due(String call, Object got, Object want) {
        asked++;
        if (!want.equals(got)) {
            wrong++;
            System.out.println(call + " answered " + shown(got) + ", due is " + shown(want));
        }
    }

    static void finish() {
        System.out.println(asked + " answers looked at, " + wrong + " not as due");
        if (wrong != 0 || asked == 0) {
            System.exit(1);
        }
    }

    static String shown(Object o) {
        return String.valueOf(o).replace("\n", "|");
    }

    /** The five ints of a text's 20 bytes from a place on, with 0 behind its end. */
    static int[] five(String text, int from) {
        byte[] bytes = text.getBytes(StandardCharsets.ISO_8859_1);
        int[] ints = new int[5];
        for (int j = 0; j < 20; j++) {
            int b = from + j < bytes.length ? bytes[from + j] & 255 : 0;
            ints[j / 4] = ints[j / 4] << 8 | b;
        }
        return ints;
    }

    /** Puts a text onto the tape, which is empty. */
    void lay(String text) {
        for (int i = 0; i < text.length(); i += 20) {
            int[] five = five(text, i);
            book.feed(five[0], five[1], five[2], five[3], five[4]);
        }
        book.end(text.length());
    }

    void tree(String text, int want) {
        lay(text);
        due("tree of " + shown(text), book.tree(), want);
    }

    void mark(String text, int want) {
        lay(text);
        due("mark of " + shown(text), book.mark(), want);
    }

    void set(String text, int want) {
        lay(text);
        due("set of " + shown(text), book.set(), want);
    }

    void place(String text, int want) {
        lay(text);
        due("place of " + shown(text), book.place(), want);
    }

    /** A text is a SET with these TUPLES, told with blanks between. */
    void makes(String text, String tuples) {
        set(text, tuples.isEmpty() ? 0 : tuples.split(" ").length);
        due("the SET of " + shown(text), tuples(), tuples);
    }

    String tuples() {
        book.print();
        return sheet().trim().replace('\n', ' ');
    }

    String sheet() {
        StringBuilder text = new StringBuilder();
        for (int i = 0; i < book.count(6); i++) {
            text.append((char) book.printed(i));
        }
        return text.toString();
    }

    void counts(int what, int want) {
        due("count(" + what + ")", book.count(what), want);
    }
}
