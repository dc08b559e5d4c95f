/** Promise 1: a new object; and promise 16: count. */
public final class NewObjectTest {
    public static void main(String[] args) {
        aNewObject();
        twoObjectsShareNothing();
        counts();
        Probe.finish();
    }

    private static void aNewObject() {
        Probe p = new Probe();
        int[] want = {1, 1, 1, 0, 0, 0, 0, -1};
        for (int what = 0; what < want.length; what++) {
            p.counts(what, want[what]);
        }
        Probe.due("keep(0)", p.book().keep(0), SetBook.NONE);
        Probe.due("drop(0)", p.book().drop(0), SetBook.NONE);
        Probe.due("tuple(0, 0)", p.book().tuple(0, 0), SetBook.NONE);
        Probe.due("shows(0, 0)", p.book().shows(0, 0), SetBook.NOTHING);
        Probe.due("number(0, 0, 0)", p.book().number(0, 0, 0), SetBook.NOTHING);
        Probe.due("member(0, 0, 0)", p.book().member(0, 0, 0), SetBook.NONE);
        Probe.due("member(0, 0, 1)", p.book().member(0, 0, 1), 0);
        Probe.due("member(0, 0, 2)", p.book().member(0, 0, 2), 0);
        Probe.due("member(0, 0, 3)", p.book().member(0, 0, 3), 1);
        Probe.due("printed(0)", p.book().printed(0), SetBook.NONE);
        Probe.due("print()", p.book().print(), 0);
        Probe.due("end(1)", p.book().end(1), SetBook.NONE);
        for (int k = 0; k < 6; k++) {
            p.set("#" + k, Probe.wrongAt(0));
        }
        p.mark("t m 4", 1);
        p.makes("full(t.all,m)", "t");
    }

    private static void twoObjectsShareNothing() {
        Probe one = Probe.small();
        Probe two = new Probe();
        one.set("a", 1);
        one.book().keep(0);
        two.counts(2, 1);
        two.counts(3, 0);
        two.counts(5, 0);
        one.counts(2, 8);
        one.counts(5, 1);
    }

    private static void counts() {
        Probe p = Probe.small();
        p.counts(0, 2);
        p.counts(1, 2);
        p.counts(2, 8);
        p.counts(3, 0);
        p.counts(4, 0);
        p.set("a.kids*p.kids", 4);
        p.counts(3, 4);
        p.counts(4, 2);
        p.book().keep(0);
        p.book().keep(5);
        p.counts(5, 2);
        p.book().keep(5);
        p.counts(5, 2);
        p.book().drop(0);
        p.counts(5, 1);
        p.counts(6, 0);
        p.book().print();
        p.counts(6, 16);
        p.set("t.up", 0);
        p.counts(3, 0);
        p.counts(4, 1);
        p.counts(6, 16);
        p.counts(7, SetBook.NONE);
        p.counts(-1, SetBook.NONE);
        p.counts(Integer.MIN_VALUE, SetBook.NONE);
        p.counts(Integer.MAX_VALUE, SetBook.NONE);
    }
}
