/** Part II, TREE TEXT, and promises 4 (tree) and 14 (member): for each sentence the cases at its edge. */
public final class TreeEdgesTest {
    private static final Probe.Text TREE = Probe.Text.TREE;
    /** ROOT r with a chain of MEMBERS under it, the last 6 below. */
    private static final String SIX_BELOW = "dim r\nmem a r\nmem b a\nmem c b\nmem d c\nmem e d\nmem f e\n";

    public static void main(String[] args) {
        eachLineHasByteTen();
        twoParts();
        oneToFourDimensions();
        noneOrMoreMembers();
        parents();
        oneToThreeMarks();
        allNamesAreDifferent();
        atMostThirty();
        atMostSixBelow();
        wordsThatAreNoNames();
        numberedAsTold();
        leaves();
        noNumberAtFirst();
        atTheBeginning();
        treeAnswers();
        treeTakesAway();
        treeBehindTree();
        treeIsWrong();
        memberTells();
        memberIsNone();
        memberOfAnotherWhat();
        Probe.finish();
    }

    private static void right(String text, int members, int dimensions, int marks) {
        Probe p = new Probe();
        p.tree(text, members);
        p.counts(0, dimensions);
        p.counts(1, marks);
        p.counts(2, members);
    }

    private static void wrong(String text, int place) {
        Probe.wrongs(Probe::busy, TREE, text, "" + place);
    }

    private static void member(Probe p, int d, int k, int... want) {
        for (int what = 0; what < 4; what++) {
            Probe.due("member(" + d + ", " + k + ", " + what + ")", p.book().member(d, k, what), want[what]);
        }
    }

    private static void eachLineHasByteTen() {
        Probe.sentence("TREE TEXT: lines, each with byte 10 behind it");
        right("dim t\nmar m\n", 1, 1, 1);
        wrong("dim t\nmar m", 11);
        wrong("dim tmar m\n", 8);
        wrong("dim t\rmar m\n", 5);
        wrong("dim t\r\nmar m\n", 5);
        wrong("dim t\nmar m\r\n", 11);
        wrong("dim t\nmem a t mar m\n", 13);
        wrong("dim t\n\nmar m\n", 6);
        wrong("\ndim t\nmar m\n", 0);
        wrong("dim t\nmar m\n\n", 12);
        wrong("dim t\nmar m\n\0", 12);
        wrong("dim t\nmar m\0", 11);
    }

    private static void twoParts() {
        Probe.sentence("in two parts. First DIMENSIONS .. Then MARKS");
        wrong("mar m\ndim t\n", 0);
        wrong("dim t\nmar m\ndim p\n", 12);
        wrong("dim t\nmar m\ndim p\nmar n\n", 12);
        wrong("dim t\nmar m\nmem a t\n", 12);
        wrong("dim t\nmar m\nmem", 12);
        wrong("dim t\nmar m\nmar n\ndim", 18);
    }

    private static void oneToFourDimensions() {
        Probe.sentence("First DIMENSIONS, 1 to 4");
        wrong("", 0);
        wrong("mar m\n", 0);
        wrong("mem a t\nmar m\n", 0);
        right("dim a\nmar m\n", 1, 1, 1);
        right("dim a\ndim b\nmar m\n", 2, 2, 1);
        right("dim a\ndim b\ndim c\nmar m\n", 3, 3, 1);
        right("dim a\ndim b\ndim c\ndim d\nmar m\n", 4, 4, 1);
        wrong("dim a\ndim b\ndim c\ndim d\ndim e\nmar m\n", 24);
        wrong("dim a\ndim b\ndim c\ndim d\nmem d1 d\ndim e\nmar m\n", 33);
    }

    private static void noneOrMoreMembers() {
        Probe.sentence("Behind each of these its MEMBERS, none or more");
        right("dim a\nmem a1 a\ndim b\ndim c\nmem c1 c\nmem c2 c\nmar m\n", 6, 3, 1);
        Probe p = new Probe();
        p.tree("dim a\nmem a1 a\ndim b\ndim c\nmem c1 c\nmem c2 c\nmar m\n", 6);
        member(p, 0, 0, -1, 1, 0, 1);
        member(p, 1, 0, -1, 0, 0, 1);
        member(p, 1, 1, -1, -1, -1, -1);
        member(p, 2, 0, -1, 2, 0, 2);
        p.makes("b.all*c.kids", "b.c1 b.c2");
    }

    private static void parents() {
        Probe.sentence("the NAME of its parent (the ROOT, or a MEMBER of that DIMENSION told before)");
        right("dim t\nmem a t\nmem b a\nmar m\n", 3, 1, 1);
        wrong("dim t\nmem a a\nmar m\n", 12);
        wrong("dim t\nmem a b\nmem b t\nmar m\n", 12);
        wrong("dim t\nmem a t\ndim p\nmem x t\n", 26);
        wrong("dim t\nmem a t\ndim p\nmem x a\n", 26);
        wrong("dim t\nmem a p\ndim p\n", 12);
        wrong("dim t\nmem a q\n", 12);
        wrong("dim t\nmem a mem\n", 12);
        wrong("dim t\nmem b t\nmem a m\nmar m\n", 20);
    }

    private static void oneToThreeMarks() {
        Probe.sentence("Then MARKS, 1 to 3");
        wrong("dim t\n", 6);
        wrong("dim t\nmem a t\n", 14);
        right("dim t\nmar m\n", 1, 1, 1);
        right("dim t\nmar m\nmar n\n", 1, 1, 2);
        right("dim t\nmar m\nmar n\nmar o\n", 1, 1, 3);
        wrong("dim t\nmar m\nmar n\nmar o\nmar p\n", 24);
    }

    private static void allNamesAreDifferent() {
        Probe.sentence("All NAMES are different.");
        wrong("dim t\ndim t\nmar m\n", 10);
        wrong("dim t\nmem t t\nmar m\n", 10);
        wrong("dim t\nmem a t\nmem a t\nmar m\n", 18);
        wrong("dim t\nmem a t\nmem a a\nmar m\n", 18);
        wrong("dim t\nmem a t\ndim a\nmar m\n", 18);
        wrong("dim t\nmem a t\ndim p\nmem a p\nmar m\n", 24);
        wrong("dim t\ndim p\nmem t p\nmar m\n", 16);
        wrong("dim t\nmar t\n", 10);
        wrong("dim t\nmem a t\nmar a\n", 18);
        wrong("dim t\nmar m\nmar m\n", 16);
        wrong("dim t\nmar m\nmar n\nmar m\n", 22);
        // what an earlier tree had is free again, also if that tree was WRONG
        Probe p = Probe.small();
        p.tree("dim q\nmem z q\nmar q\n", Probe.wrongAt(18));
        p.tree("dim m\nmem q m\nmem r m\nmar t\nmar a\n", 3);
        p.tree("dim t\nmem a t\nmar m\nmar r\n", 2);
    }

    private static void atMostThirty() {
        Probe.sentence("A DIMENSION has at most 30 MEMBERS with its ROOT");
        String full = Probe.wide("a", 29);
        right(full + "mar m\n", 30, 1, 1);
        wrong(full + "mem b a\nmar m\n", full.length());
        wrong(full + "mem b a0\nmar m\n", full.length());
        String twice = full + Probe.wide("b", 29);
        right(twice + "mar m\n", 60, 2, 1);
        wrong(twice + "mem c b\nmar m\n", twice.length());
        String four = twice + Probe.wide("c", 29) + Probe.wide("d", 29);
        right(four + "mar m\n", 120, 4, 1);
        wrong(four + "mem e d\nmar m\n", four.length());
        Probe p = new Probe();
        p.tree(four + "mar m\n", 120);
        member(p, 3, 29, 0, 0, 1, 1);
        member(p, 3, 30, -1, -1, -1, -1);
        p.makes("d28+d.deep", "d28 d");
        p.mark("d28 m 7", 1);
        Probe.due("number(3, 29, 0)", p.book().number(3, 29, 0), 7);
    }

    private static void atMostSixBelow() {
        Probe.sentence("none lies more than 6 below it (else WRONG at its parent's NAME)");
        right(SIX_BELOW + "mar m\n", 7, 1, 1);
        right(SIX_BELOW + "mem g e\nmar m\n", 8, 1, 1);
        wrong(SIX_BELOW + "mem g f\nmar m\n", SIX_BELOW.length() + 6);
        wrong(SIX_BELOW + "mem g f", SIX_BELOW.length() + 6);
        wrong("dim p\nmem x p\n" + SIX_BELOW + "mem g f\nmar m\n", SIX_BELOW.length() + 20);
        Probe p = new Probe();
        p.tree("dim p\nmem x p\n" + SIX_BELOW + "mar m\n", 9);
        member(p, 1, 6, 5, 0, 6, 1);
        p.makes("f.path", "f e d c b a r");
        p.makes("r.all", "r a b c d e f");
        p.makes("r.ends", "f");
    }

    private static void wordsThatAreNoNames() {
        Probe.sentence("Words that can't be NAMES: dim mem mar.");
        String[] words = {"dim", "mem", "mar"};
        for (String word : words) {
            wrong("dim " + word + "\nmar m\n", 4);
            wrong("dim " + word, 4);
            wrong("dim t\nmem " + word + " t\nmar m\n", 10);
            wrong("dim t\nmar " + word + "\n", 10);
            right("dim t" + word + "\nmar m\n", 1, 1, 1);
            right("dim t\nmem " + word + "1 t\nmar m\n", 2, 1, 1);
            right("dim t\nmar " + word.substring(0, 2) + "\n", 1, 1, 1);
        }
        right("dim head\nmem kids head\nmem tree kids\nmar all\nmar each\n", 3, 1, 2);
    }

    private static void numberedAsTold() {
        Probe.sentence("MEMBERS of a DIMENSION are numbered from 0 on (the ROOT) as they are told; that is their ORDER.");
        Probe p = new Probe();
        p.tree("dim z\nmem y z\nmem a z\nmem c y\nmem b a\nmem x y\ndim p\nmem o p\nmar m\n", 8);
        String[] names = {"z", "y", "a", "c", "b", "x"};
        for (int k = 0; k < names.length; k++) {
            p.set(names[k], 1);
            Probe.due("tuple(0, 0) of " + names[k], p.book().tuple(0, 0), k);
        }
        p.set("o", 1);
        Probe.due("tuple(0, 1) of o", p.book().tuple(0, 1), 1);
        p.makes("z.kids", "y a");
        p.makes("c.deep", "c b x");
    }

    private static void leaves() {
        Probe.sentence("One without MEMBERS under it is a LEAF (a ROOT alone is one).");
        Probe p = new Probe();
        p.makes("t.ends", "t");
        Probe.due("member(0, 0, 3)", p.book().member(0, 0, 3), 1);
        p.tree("dim t\nmem a t\ndim p\nmar m\n", 3);
        p.makes("t.ends", "a");
        p.makes("p.ends", "p");
        Probe.due("member(0, 0, 3)", p.book().member(0, 0, 3), 1);
        Probe.due("member(0, 1, 3)", p.book().member(0, 1, 3), 1);
        Probe.due("member(1, 0, 3)", p.book().member(1, 0, 3), 1);
    }

    private static void noNumberAtFirst() {
        Probe.sentence("Each MEMBER has at each MARK a number, -1000000 .. 1000000, or none (at first).");
        Probe p = new Probe();
        String four = Probe.wide("a", 3) + Probe.wide("b", 3) + Probe.wide("c", 3) + Probe.wide("d", 3);
        p.tree(four + "mar m\nmar n\nmar o\n", 16);
        for (int d = 0; d < 4; d++) {
            for (int k = 0; k < 4; k++) {
                for (int mark = 0; mark < 3; mark++) {
                    Probe.due("number", p.book().number(d, k, mark), SetBook.NOTHING);
                }
            }
        }
    }

    private static void atTheBeginning() {
        Probe.sentence("At first there is one DIMENSION with a ROOT t, and a MARK m.");
        Probe p = new Probe();
        p.counts(0, 1);
        p.counts(1, 1);
        p.counts(2, 1);
        member(p, 0, 0, -1, 0, 0, 1);
        member(p, 0, 1, -1, -1, -1, -1);
        member(p, 1, 0, -1, -1, -1, -1);
        p.makes("t.all", "t");
        p.mark("t m 1", 1);
        p.mark("t t 1", Probe.wrongAt(2));
    }

    private static void treeAnswers() {
        Probe.sentence("Promise 4: how many MEMBERS there are in all");
        Probe p = new Probe();
        p.tree("dim a\nmar m\n", 1);
        p.tree("dim a\ndim b\ndim c\ndim d\nmar m\n", 4);
        p.tree(Probe.SMALL, 8);
        p.tree("dim a\nmem b a\nmar m\n", 2);
        p.counts(2, 2);
    }

    private static void treeTakesAway() {
        Probe.sentence("Promise 4: no MEMBER has a number, THE SET has no TUPLES and no DIMENSIONS, none is KEPT.");
        String[] texts = {Probe.SMALL, "dim t\nmem a t\nmar m\n"};
        for (String text : texts) {
            Probe p = Probe.busy();
            p.tree(text, text.equals(Probe.SMALL) ? 8 : 2);
            for (int k = 0; k < 2; k++) {
                Probe.due("number(0, " + k + ", 0)", p.book().number(0, k, 0), SetBook.NOTHING);
                Probe.due("number(0, " + k + ", 1)", p.book().number(0, k, 1), SetBook.NOTHING);
            }
            p.counts(3, 0);
            p.counts(4, 0);
            p.counts(5, 0);
            Probe.due("tuple(0, 0)", p.book().tuple(0, 0), SetBook.NONE);
            Probe.due("shows(0, 0)", p.book().shows(0, 0), SetBook.NOTHING);
            Probe.due("keep(1)", p.book().keep(1), SetBook.NONE);
            for (int k = 0; k < 6; k++) {
                Probe.due("drop(" + k + ")", p.book().drop(k), SetBook.NONE);
            }
            p.set("#0", Probe.wrongAt(0));
            p.set("#3", Probe.wrongAt(0));
            p.place("", SetBook.NONE);
            p.mark("a m 3", 1);
            Probe.due("THE SHEET is not named, so it stays", p.sheet(), "b\n");
        }
    }

    private static void treeBehindTree() {
        Probe.sentence("Promise 4: THE TAPE is the TREE TEXT .. no MEMBER has a number (each time that a tree is told)");
        String large = "dim t\nmem a t\nmem b t\nmem c a\ndim p\nmem x p\nmar m\nmar n\n";
        String small = "dim t\nmem c t\nmem b c\nmem a b\nmar m\n";
        Probe p = new Probe();
        p.mark("t m 1", 1);
        for (int n = 0; n < 3; n++) {
            p.tree(large, 6);
            member(p, 0, 0, -1, 2, 0, 2);
            member(p, 0, 1, 0, 1, 1, 1);
            member(p, 1, 0, -1, 1, 0, 1);
            noNumbers(p);
            p.mark("t m 1", 1);
            p.mark("a n 1", 1);
            p.tree("dim q\nmem z q\nmem y z\nmem x y\nmem w q\nmar m\nmar q\n", Probe.wrongAt(48));
            p.tree(small, 4);
            member(p, 0, 0, -1, 1, 0, 1);
            member(p, 0, 2, 1, 1, 2, 1);
            member(p, 0, 3, 2, 0, 3, 1);
            member(p, 1, 0, -1, -1, -1, -1);
            noNumbers(p);
            p.makes("t.all", "t c b a");
            p.mark("t m 1", 1);
            p.mark("a m 1", 2);
            if (n % 2 == 0) {
                p.tree(small, 4);
                member(p, 1, 0, -1, -1, -1, -1);
                noNumbers(p);
            }
        }
    }

    private static void noNumbers(Probe p) {
        for (int k = 0; k < 4; k++) {
            Probe.due("number(0, " + k + ", 0)", p.book().number(0, k, 0), SetBook.NOTHING);
            Probe.due("number(0, " + k + ", 1)", p.book().number(0, k, 1), SetBook.NOTHING);
        }
    }

    private static void treeIsWrong() {
        Probe.sentence("Promise 4: WRONG.");
        wrong("dim t\nmar m\nmar n\nmar o\nmar p\n", 24);
        wrong("x", 0);
        Probe p = new Probe();
        StringBuilder longest = new StringBuilder(Probe.wide("a", 29));
        while (longest.length() < 2000) {
            longest.append('x');
        }
        p.tree(longest.toString(), Probe.wrongAt(Probe.wide("a", 29).length()));
        p.counts(2, 1);
    }

    private static void memberTells() {
        Probe.sentence("Promise 14: what 0: its parent (NONE of the ROOT), 1: how many are right under it, "
                + "2: how far below the ROOT it is, 3: how many LEAVES its all has");
        Probe p = new Probe();
        p.tree("dim r\nmem a r\nmem b r\nmem c a\nmem d a\nmem e d\nmem f d\nmem g d\nmar m\n", 8);
        member(p, 0, 0, -1, 2, 0, 5);
        member(p, 0, 1, 0, 2, 1, 4);
        member(p, 0, 2, 0, 0, 1, 1);
        member(p, 0, 3, 1, 0, 2, 1);
        member(p, 0, 4, 1, 3, 2, 3);
        member(p, 0, 7, 4, 0, 3, 1);
        p.tree(Probe.wide("a", 1) + Probe.wide("b", 29) + "mar m\n", 32);
        member(p, 1, 0, -1, 29, 0, 29);
        member(p, 0, 0, -1, 1, 0, 1);
    }

    private static void memberIsNone() {
        Probe.sentence("Promise 14: NONE if there is none such");
        Probe p = Probe.small();
        int[][] none = {{0, 5}, {0, -1}, {1, 3}, {2, 0}, {-1, 0}, {4, 0}, {0, 32}, {-1, 32}, {0, 29}, {3, 0}};
        for (int[] dk : none) {
            member(p, dk[0], dk[1], -1, -1, -1, -1);
        }
        for (int far : Probe.FAR) {
            member(p, far, 0, -1, -1, -1, -1);
            member(p, 0, far, -1, -1, -1, -1);
            member(p, far, far, -1, -1, -1, -1);
        }
        p.tree("dim t\nmar m\n", 1);
        member(p, 0, 1, -1, -1, -1, -1);
        member(p, 1, 0, -1, -1, -1, -1);
        Probe full = new Probe();
        full.tree(Probe.wide("a", 29) + Probe.wide("b", 29) + Probe.wide("c", 29) + Probe.wide("d", 29) + "mar m\n", 120);
        int[][] beyond = {{4, 0}, {4, 29}, {0, 30}, {0, 31}, {3, 30}, {3, 32}, {-1, 29}, {0, -1}};
        for (int[] dk : beyond) {
            member(full, dk[0], dk[1], -1, -1, -1, -1);
        }
    }

    private static void memberOfAnotherWhat() {
        Probe.sentence("Promise 14: NONE .. for another what");
        Probe p = Probe.small();
        Probe.due("member(0, 1, 4)", p.book().member(0, 1, 4), SetBook.NONE);
        for (int far : Probe.FAR) {
            Probe.due("member(0, 1, " + far + ")", p.book().member(0, 1, far), SetBook.NONE);
        }
    }
}
