/** Promises 5, 10 and 15: mark, shows and number. */
public final class MarkTest {
    private static final String[] MARK_WRONGS = {
        "", "0", " ", "0", "a", "1", "a ", "2", "a m", "3", "a m ", "4", "q m 1", "0", "q", "0", "m m 1", "0",
        "abcdefghi m 1", "8", "a  m 1", "2", "a x 1", "2", "a x", "2", "a abcdefghi 1", "10", "a mm 1", "2",
        "a.m 1", "1", "a m,1", "3", "a m  1", "4", "a m x", "4", "a m 1 ", "5", "a m 1x", "5", "a m 01", "5",
        "a m 00", "5", "a m -0", "5", "a m -01", "5", "a m --1", "5", "a m - ", "5", "a m +1", "4",
        "a m 1000001", "4", "a m -1000001", "4", "a m 1000001x", "4", "a m 999999999", "4",
        "a m 1234567890", "13", "a m -1234567890", "14", "a m 12345678901234567890", "13", "a m 1-", "5",
        "a m 1\n", "5", "dim m 1", "0",
    };

    public static void main(String[] args) {
        marks();
        wrongs();
        sums();
        noneSuch();
        Probe.finish();
    }

    private static void number(Probe p, int d, int k, int mark, int want) {
        Probe.due("number(" + d + ", " + k + ", " + mark + ")", p.book().number(d, k, mark), want);
    }

    private static void marks() {
        Probe p = Probe.small();
        p.mark("a m -", 0);
        p.mark("a m 0", 1);
        number(p, 0, 1, 0, 0);
        p.mark("a m 1000000", 1);
        number(p, 0, 1, 0, 1000000);
        p.mark("a m -1000000", 1);
        number(p, 0, 1, 0, -1000000);
        p.mark("p m -7", 2);
        number(p, 1, 0, 0, -7);
        number(p, 1, 0, 1, SetBook.NOTHING);
        p.mark("p r 12", 1);
        number(p, 1, 0, 1, 12);
        number(p, 1, 0, 0, -7);
        p.mark("a m -", 1);
        number(p, 0, 1, 0, SetBook.NOTHING);
        p.mark("a m -", 1);
        p.mark("t r -1", 2);
        number(p, 0, 0, 1, -1);
    }

    private static void wrongs() {
        Probe.wrongs(Probe::marked, Probe.Text.MARK, MARK_WRONGS);
    }

    private static void shows(Probe p, int i, int k, int want) {
        Probe.due("shows(" + i + ", " + k + ")", p.book().shows(i, k), want);
    }

    private static void sums() {
        Probe p = Probe.marked();
        p.set("a*x+a*y+d*x+a*p", 4);
        shows(p, 0, 0, 6);
        shows(p, 1, 0, 2);
        shows(p, 2, 0, SetBook.NOTHING);
        shows(p, 3, 0, SetBook.NOTHING);
        shows(p, 2, 1, SetBook.NOTHING);
        p.mark("p m -5", 6);
        shows(p, 3, 0, 0);
        p.mark("a m -", 5);
        shows(p, 0, 0, SetBook.NOTHING);
        p.set("d", 1);
        shows(p, 0, 0, SetBook.NOTHING);
        shows(p, 0, 1, 1);
        p.tree("dim a\ndim b\ndim c\ndim d\nmar m\nmar n\nmar o\n", 4);
        String[] names = {"a", "b", "c", "d"};
        for (int i = 0; i < 4; i++) {
            p.mark(names[i] + " o -1000000", i + 1);
        }
        p.set("a*b*c*d", 1);
        shows(p, 0, 2, -4000000);
        shows(p, 0, 1, SetBook.NOTHING);
    }

    private static void noneSuch() {
        Probe p = Probe.marked();
        p.set("a", 1);
        int[] off = {-1, 2, 3, Integer.MIN_VALUE, Integer.MAX_VALUE};
        for (int k : off) {
            shows(p, 0, k, SetBook.NOTHING);
            number(p, 0, 1, k, SetBook.NOTHING);
            number(p, k, 1, 0, SetBook.NOTHING);
        }
        int[] offTuples = {-1, 1, 200, Integer.MIN_VALUE, Integer.MAX_VALUE};
        for (int i : offTuples) {
            shows(p, i, 0, SetBook.NOTHING);
        }
        number(p, 0, 5, 0, SetBook.NOTHING);
        number(p, 0, -1, 0, SetBook.NOTHING);
        number(p, 0, 32, 0, SetBook.NOTHING);
        p.set("t.up", 0);
        shows(p, 0, 0, SetBook.NOTHING);
    }
}
