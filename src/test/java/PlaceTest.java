/** Promise 11: place. */
public final class PlaceTest {
    private static final String[] WRONGS = {
        // over Probe.SMALL, THE SET of t and p
        "", "0", "a", "1", "a.", "2", "a.x.", "3", "a.x.y", "3", "a.x ", "3", "a.x\n", "3", "a x", "1", "x", "0",
        "x.a", "0", "a.b", "2", "a.b.x", "2", "q", "0", "q.x", "0", "a.q", "2", "a.m", "2", "m", "0", "1", "0",
        ".", "0", "a..x", "2", "abcdefghi", "8", "a.abcdefghi", "10", "a.xx", "2", "aa.x", "0", "a*x", "1", "a.kids", "2",
    };

    public static void main(String[] args) {
        Probe p = Probe.small();
        withoutDimensions(p);
        withoutDimensions(new Probe());
        ofOne(p);
        ofTwo(p);
        ofNoTuples(p);
        withoutDimensionsAgain(p);
        Probe.finish();
    }

    private static void withoutDimensions(Probe p) {
        p.place("t", Probe.wrongAt(0));
        p.place("t.p", Probe.wrongAt(0));
        p.place("q", Probe.wrongAt(0));
        p.place("abcdefghi", Probe.wrongAt(0));
        p.place(".", Probe.wrongAt(0));
        p.place("\n", Probe.wrongAt(0));
        p.place("", SetBook.NONE);
        p.counts(4, 0);
    }

    private static void ofOne(Probe p) {
        p.set("t.all", 5);
        p.place("t", 0);
        p.place("a", 1);
        p.place("b", 4);
        p.set("t.kids", 2);
        p.place("b", 1);
        p.place("t", SetBook.NONE);
        p.place("x", Probe.wrongAt(0));
        p.place("b.x", Probe.wrongAt(1));
        p.place("b.", Probe.wrongAt(1));
        p.place("b ", Probe.wrongAt(1));
    }

    private static void ofTwo(Probe p) {
        p.set("a.kids*p.kids", 4);
        p.place("c.x", 0);
        p.place("c.y", 1);
        p.place("d.x", 2);
        p.place("d.y", 3);
        p.place("a.x", SetBook.NONE);
        p.place("d.p", SetBook.NONE);
        Probe.wrongs(Probe::busy, Probe.Text.PLACE, WRONGS);
        p.set("p.kids*a.kids", 4);
        p.place("x.d", 1);
        p.place("c.x", Probe.wrongAt(0));
        p.counts(3, 4);
    }

    private static void ofNoTuples(Probe p) {
        p.set("t.up*p", 0);
        p.place("t.p", SetBook.NONE);
        p.place("t", Probe.wrongAt(1));
        p.place("p", Probe.wrongAt(0));
    }

    /** A new tree takes the DIMENSIONS from THE SET; a text that is WRONG does not. */
    private static void withoutDimensionsAgain(Probe p) {
        p.set("t.all", 5);
        p.set("t.all+", Probe.wrongAt(6));
        p.place("", Probe.wrongAt(0));
        p.tree(Probe.SMALL, 8);
        withoutDimensions(p);
    }
}
