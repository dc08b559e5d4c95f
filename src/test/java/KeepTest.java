/** Promises 7, 8 and 9: keep, drop and tuple. */
public final class KeepTest {
    public static void main(String[] args) {
        keeps();
        noSuchPlace();
        keptAsItIs();
        tuples();
        Probe.finish();
    }

    private static void keep(Probe p, int k, int want) {
        Probe.due("keep(" + k + ")", p.book().keep(k), want);
    }

    private static void drop(Probe p, int k, int want) {
        Probe.due("drop(" + k + ")", p.book().drop(k), want);
    }

    private static void keeps() {
        Probe p = Probe.small();
        keep(p, 0, SetBook.NONE);
        p.set("t.all", 5);
        keep(p, 0, 5);
        p.set("t.kids*p", 2);
        keep(p, 5, 2);
        p.counts(5, 2);
        p.makes("#5", "a.p b.p");
        p.makes("#0", "t a c d b");
        p.makes("#0*y", "t.y a.y c.y d.y b.y");
        p.set("t.up", 0);
        keep(p, 0, 0);
        p.counts(5, 2);
        p.makes("#0", "");
        p.makes("#0+a", "a");
        drop(p, 0, 0);
        drop(p, 0, SetBook.NONE);
        p.set("#0", Probe.wrongAt(0));
        drop(p, 5, 2);
        drop(p, 5, SetBook.NONE);
        p.counts(5, 0);
    }

    private static void noSuchPlace() {
        Probe p = Probe.small();
        p.set("a", 1);
        int[] off = {-1, 6, Integer.MIN_VALUE, Integer.MAX_VALUE};
        for (int k : off) {
            keep(p, k, SetBook.NONE);
            drop(p, k, SetBook.NONE);
        }
        for (int k = 0; k < 6; k++) {
            drop(p, k, SetBook.NONE);
            keep(p, k, 1);
            drop(p, k, 1);
        }
    }

    private static void keptAsItIs() {
        Probe p = Probe.marked();
        p.set("rise(t.kids,m)", 2);
        keep(p, 1, 2);
        p.mark("a m 0", 5);
        p.makes("#1", "b a");
        p.makes("rise(#1,m)", "a b");
        p.makes("#1", "b a");
        p.makes("#1+c", "b a c");
        p.makes("turn(#1)-c", "a b");
        p.makes("#1", "b a");
        p.set("a*x", 1);
        keep(p, 1, 1);
        p.makes("#1", "a.x");
        p.set("a*b", Probe.wrongAt(2));
        keep(p, 2, 1);
        p.makes("#2", "a.x");
        drop(p, 1, 1);
        p.set("#2*#2", Probe.wrongAt(3));
    }

    private static void tuple(Probe p, int i, int dimension, int want) {
        Probe.due("tuple(" + i + ", " + dimension + ")", p.book().tuple(i, dimension), want);
    }

    private static void tuples() {
        Probe p = Probe.small();
        tuple(p, 0, 0, SetBook.NONE);
        p.set("p.kids*a.kids", 4);
        int[] ofT = {3, 4, 3, 4};
        int[] ofP = {1, 1, 2, 2};
        for (int i = 0; i < 4; i++) {
            tuple(p, i, 0, ofT[i]);
            tuple(p, i, 1, ofP[i]);
        }
        int[] off = {-1, 2, 3, 4, 32, Integer.MIN_VALUE, Integer.MAX_VALUE};
        for (int d : off) {
            tuple(p, 0, d, SetBook.NONE);
        }
        int[] offTuples = {-1, 4, 200, Integer.MIN_VALUE, Integer.MAX_VALUE};
        for (int i : offTuples) {
            tuple(p, i, 0, SetBook.NONE);
        }
        p.set("y", 1);
        tuple(p, 0, 0, SetBook.NONE);
        tuple(p, 0, 1, 2);
        p.set("t.up", 0);
        tuple(p, 0, 0, SetBook.NONE);
        p.tree(Probe.wide("a", 29) + Probe.wide("b", 29) + Probe.wide("c", 29) + Probe.wide("d", 29) + "mar m\n", 120);
        p.set("a28*b28*c28*d28", 1);
        for (int d = 0; d < 4; d++) {
            tuple(p, 0, d, 29);
        }
    }
}
