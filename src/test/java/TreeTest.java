/** Promises 4 and 14: tree and member. */
public final class TreeTest {
    private static final String[] TREE_WRONGS = {
        // the text, and the place at which it is WRONG
        "", "0", "d", "0", "di", "0", "dim", "3", "dims t\n", "0", "dimdimdimdim t\n", "0",
        "Dim t\n", "0", " dim t\n", "0", "\n", "0", "dim\n", "3", "dim  t\n", "4", "dim ", "4",
        "dim t", "5", "dim t ", "5", "dim t\n", "6", "dim t\n\n", "6", "dim 1t\n", "4", "dim T\n", "4",
        "dim tT\n", "5", "dim dim\n", "4", "dim dim", "4", "dim mem\n", "4", "dim mar\n", "4",
        "dim abcdefghi\n", "12", "dim abcdefghijk", "12", "dim abcdefgh", "12",
        "mem a t\n", "0", "mar m\n", "0", "dim t\ndim t\n", "10", "dim t\ndim t", "10",
        "dim t\nmem", "9", "dim t\nmem a", "11", "dim t\nmem a ", "12", "dim t\nmem a\n", "11",
        "dim t\nmem a t", "13", "dim t\nmem a t t\n", "13", "dim t\nmem a a\n", "12",
        "dim t\nmem a b\n", "12", "dim t\nmem a tt\n", "12", "dim t\nmem a tabcdefgh\n", "20",
        "dim t\nmem t t\n", "10", "dim t\nmem t", "10", "dim t\nmem mem t\n", "10",
        "dim t\nmem a t\nmem a t\n", "18", "dim t\nmem a t\ndim p\nmem x a\n", "26",
        "dim t\nmem a t\ndim p\nmem x t\n", "26", "dim t\nmem a t\ndim p\nmem a p\n", "24",
        "dim t\nmar t\n", "10", "dim t\nmar mar\n", "10", "dim t\nmar m\nmar m\n", "16",
        "dim t\nmar m\ndim p\n", "12", "dim t\nmar m\nmem a t\n", "12", "dim t\nmar m", "11",
        "dim t\nmar m\nma", "12", "dim t\nmar m\n?", "12", "dim t\nmar m m\n", "11",
        "dim t\nmar m\nmar n\nmar o\nmar p\n", "24", "dim t\nmar m\nmar n\nmar o\nx", "24",
        "dim a\ndim b\ndim c\ndim d\ndim e\nmar m\n", "24",
        "dim t\nmem m1\u00e9 t\n", "12",
    };

    public static void main(String[] args) {
        small();
        widest();
        deepest();
        anotherTree();
        wrongs();
        wrongChangesNothing();
        wordsThatMayBeNames();
        membersThatAreNone();
        Probe.finish();
    }

    private static void member(Probe p, int d, int k, int... want) {
        for (int what = 0; what < 4; what++) {
            Probe.due("member(" + d + ", " + k + ", " + what + ")", p.book().member(d, k, what), want[what]);
        }
    }

    private static void small() {
        Probe p = Probe.small();
        member(p, 0, 0, -1, 2, 0, 3);
        member(p, 0, 1, 0, 2, 1, 2);
        member(p, 0, 2, 0, 0, 1, 1);
        member(p, 0, 3, 1, 0, 2, 1);
        member(p, 0, 4, 1, 0, 2, 1);
        member(p, 1, 0, -1, 2, 0, 2);
        member(p, 1, 1, 0, 0, 1, 1);
        member(p, 1, 2, 0, 0, 1, 1);
        p.tree("dim t\nmar m\n", 1);
        member(p, 0, 0, -1, 0, 0, 1);
        member(p, 1, 0, -1, -1, -1, -1);
        p.tree("dim t\nmem a t\nmem b a\nmem c b\nmar m\n", 4);
        member(p, 0, 0, -1, 1, 0, 1);
        member(p, 0, 1, 0, 1, 1, 1);
        member(p, 0, 3, 2, 0, 3, 1);
        p.makes("t.ends", "c");
    }

    private static void widest() {
        Probe p = new Probe();
        String four = Probe.wide("a", 29) + Probe.wide("b", 29) + Probe.wide("c", 29) + Probe.wide("d", 29);
        p.tree(four + "mar m\nmar n\nmar o\n", 120);
        p.counts(0, 4);
        p.counts(1, 3);
        p.counts(2, 120);
        member(p, 3, 0, -1, 29, 0, 29);
        member(p, 3, 29, 0, 0, 1, 1);
        member(p, 3, 30, -1, -1, -1, -1);
        String one = Probe.wide("a", 29);
        p.tree(one + "mem b a\nmar m\n", Probe.wrongAt(one.length()));
        p.tree(one + "me", Probe.wrongAt(one.length()));
        p.tree(four + "dim e\nmar m\n", Probe.wrongAt(four.length()));
        p.counts(2, 120);
    }

    private static void deepest() {
        Probe p = new Probe();
        String six = "dim r\nmem a r\nmem b a\nmem c b\nmem d c\nmem e d\nmem f e\n";
        p.tree(six + "mar m\n", 7);
        member(p, 0, 6, 5, 0, 6, 1);
        member(p, 0, 0, -1, 1, 0, 1);
        p.makes("f.path", "f e d c b a r");
        p.tree(six + "mem g f\nmar m\n", Probe.wrongAt(six.length() + 6));
        p.tree(six + "mem g f", Probe.wrongAt(six.length() + 6));
        p.tree(six + "mem g e\nmar m\n", 8);
        member(p, 0, 5, 4, 2, 5, 2);
    }

    private static void anotherTree() {
        Probe p = Probe.marked();
        p.set("t.all", 5);
        p.book().keep(0);
        p.book().keep(5);
        p.book().print();
        p.tree("dim t\nmem q t\nmar m\n", 2);
        p.counts(0, 1);
        p.counts(1, 1);
        p.counts(3, 0);
        p.counts(4, 0);
        p.counts(5, 0);
        p.counts(6, 10);
        Probe.due("the sheet stays", p.sheet(), "t\na\nc\nd\nb\n");
        Probe.due("number(0, 1, 0)", p.book().number(0, 1, 0), SetBook.NOTHING);
        Probe.due("keep(0)", p.book().keep(0), SetBook.NONE);
        p.set("#0", Probe.wrongAt(0));
        p.set("#5", Probe.wrongAt(0));
        p.set("a", Probe.wrongAt(0));
        p.mark("q m 5", 1);
        p.tree("dim q\nmem t q\nmar m\n", 2);
        Probe.due("number(0, 0, 0)", p.book().number(0, 0, 0), SetBook.NOTHING);
        Probe.due("number(0, 1, 0)", p.book().number(0, 1, 0), SetBook.NOTHING);
        p.makes("q.all", "q t");
    }

    private static void wrongs() {
        Probe.wrongs(Probe::new, Probe.Text.TREE, TREE_WRONGS);
    }

    private static void wrongChangesNothing() {
        Probe p = Probe.marked();
        p.makes("a.kids", "c d");
        p.book().keep(2);
        p.tree("dim q\nmem z q\nmar r\nmar q\n", Probe.wrongAt(24));
        p.counts(0, 2);
        p.counts(1, 2);
        p.counts(2, 8);
        p.counts(3, 2);
        p.counts(4, 1);
        p.counts(5, 1);
        Probe.due("number(0, 1, 0)", p.book().number(0, 1, 0), 5);
        p.makes("#2+t.kids", "c d a b");
        member(p, 0, 0, -1, 2, 0, 3);
    }

    private static void wordsThatMayBeNames() {
        Probe p = new Probe();
        p.tree("dim all\nmem head all\nmem kids all\nmem a1b2c3d4 all\nmem d all\nmar tree\n", 5);
        p.makes("all.all", "all head kids a1b2c3d4 d");
        p.mark("kids tree 4", 1);
        p.makes("full(all.kids,tree)", "kids");
    }

    private static void membersThatAreNone() {
        Probe p = Probe.small();
        int[][] none = {{-1, 0}, {2, 0}, {0, -1}, {0, 5}, {1, 3}, {Integer.MAX_VALUE, 0}, {Integer.MIN_VALUE, 0},
            {0, Integer.MAX_VALUE}, {0, Integer.MIN_VALUE}, {4, 31}};
        for (int[] dk : none) {
            member(p, dk[0], dk[1], -1, -1, -1, -1);
        }
        int[] whats = {-1, 4, Integer.MIN_VALUE, Integer.MAX_VALUE};
        for (int what : whats) {
            Probe.due("member(0, 0, " + what + ")", p.book().member(0, 0, what), SetBook.NONE);
        }
    }
}
