/** Promises 1 to 3, 5 and 7 to 10, a new object to shows: for each sentence the cases at its edge. */
public final class CallEdgesTest {
    private static final int[] NEITHER_0_TO_5 = {-1, 6, 7, 8, Integer.MIN_VALUE, Integer.MAX_VALUE, 1 << 30, 256};

    public static void main(String[] args) {
        atMost512Calls();
        aNewObject();
        feedPutsHighestFirst();
        feedIsFull();
        endCuts();
        endIsNone();
        markPuts();
        markTakesAway();
        markCounts();
        markIsWrong();
        keepKeeps();
        keepInPlaceOfWhatWas();
        keepAsItIs();
        keepIsNone();
        dropDrops();
        dropIsNone();
        tupleTells();
        tupleIsNone();
        showsTells();
        showsNothing();
        Probe.finish();
    }

    private static void atMost512Calls() {
        Probe.sentence("An object is used for at most 512 calls after it has been made");
        Probe p = Probe.small();
        int[] five = Probe.five("rise(t.all,m)", 0);
        while (p.callsLeft() > 4) {
            Probe.due("feed", p.book().feed(five[0], five[1], five[2], five[3], five[4]), 20);
            Probe.due("end(13)", p.book().end(13), 13);
            Probe.due("set()", p.book().set(), 5);
            Probe.due("print()", p.book().print(), 10);
        }
        while (p.callsLeft() > 0) {
            Probe.due("tuple(4, 0)", p.book().tuple(4, 0), 2);
        }
    }

    private static void aNewObject() {
        Probe.sentence("Promise 1: The tree as at the beginning; THE SET has no TUPLES and no DIMENSIONS; none is KEPT.");
        Probe p = new Probe();
        int[] counts = {1, 1, 1, 0, 0, 0, 0};
        for (int what = 0; what < counts.length; what++) {
            p.counts(what, counts[what]);
        }
        Probe.due("tuple(0, 0)", p.book().tuple(0, 0), SetBook.NONE);
        Probe.due("shows(0, 0)", p.book().shows(0, 0), SetBook.NOTHING);
        Probe.due("number(0, 0, 0)", p.book().number(0, 0, 0), SetBook.NOTHING);
        Probe.due("end(1)", p.book().end(1), SetBook.NONE);
        Probe.due("place()", p.book().place(), SetBook.NONE);
        for (int k = 0; k < 6; k++) {
            Probe.due("keep(" + k + ")", p.book().keep(k), SetBook.NONE);
            Probe.due("drop(" + k + ")", p.book().drop(k), SetBook.NONE);
            p.set("#" + k, Probe.wrongAt(0));
        }
        // every text's call on the empty tape
        Probe.due("tree()", p.book().tree(), Probe.wrongAt(0));
        Probe.due("mark()", p.book().mark(), Probe.wrongAt(0));
        Probe.due("set()", p.book().set(), Probe.wrongAt(0));
        Probe.due("print()", p.book().print(), 0);
        p.makes("t.all", "t");
        // another object has nothing of it
        Probe.busy();
        Probe other = new Probe();
        for (int what = 0; what < counts.length; what++) {
            other.counts(what, counts[what]);
        }
    }

    private static void feedPutsHighestFirst() {
        Probe.sentence("Promise 2: Twenty bytes come behind those on THE TAPE, the highest of each int first: how many there are.");
        Probe p = new Probe();
        Probe.due("feed", p.book().feed(0x64696D20, 0x61626364, 0x0A6D656D, 0x20652061, 0x6263640A), 20);
        Probe.due("feed", p.book().feed(0x6D617220, 0x7A0A0000, 0, 0, 0), 40);
        Probe.due("end(26)", p.book().end(26), 26);
        Probe.due("tree()", p.book().tree(), 2);
        p.makes("abcd.all", "abcd e");
        // a byte of 128 and more is no letter, whatever its sign
        Probe high = new Probe();
        Probe.due("feed", high.book().feed(0x742BF4FF, -1, Integer.MIN_VALUE, 0x80808080, -1), 20);
        Probe.due("set()", high.book().set(), Probe.wrongAt(2));
        // behind a tape that was cut, not behind what was cut off
        Probe cut = new Probe();
        cut.book().feed(0x742B3F3F, 0, 0, 0, 0);
        Probe.due("end(2)", cut.book().end(2), 2);
        Probe.due("feed", cut.book().feed(0x74000000, 0, 0, 0, 0), 22);
        Probe.due("end(3)", cut.book().end(3), 3);
        Probe.due("set()", cut.book().set(), 1);
    }

    private static void feedIsFull() {
        Probe.sentence("Promise 2: FULL.");
        int[] lengths = {1980, 1981, 1999, 2000};
        for (int length : lengths) {
            Probe p = new Probe();
            for (int n = 1; n <= 100; n++) {
                p.book().feed(0x742B742B, 0x742B742B, 0x742B742B, 0x742B742B, 0x742B742B);
            }
            Probe.due("end(" + length + ")", p.book().end(length), length);
            int want = length <= 1980 ? length + 20 : SetBook.FULL;
            Probe.due("feed behind " + length, p.book().feed(0, 0, 0, 0, 0), want);
            int left = length <= 1980 ? length + 20 : length;
            Probe.due("end(" + (left + 1) + ")", p.book().end(left + 1), SetBook.NONE);
            Probe.due("end(" + left + ")", p.book().end(left), left);
            // what a refused feed left is the text as it was
            int answer = length <= 1980 ? Probe.wrongAt(1980) : length % 2 == 1 ? 1 : Probe.wrongAt(2000);
            Probe.due("set() behind " + length, p.book().set(), answer);
        }
    }

    private static void endCuts() {
        Probe.sentence("Promise 3: THE TAPE has its first n bytes alone: n");
        Probe p = new Probe();
        Probe.due("end(0)", p.book().end(0), 0);
        p.book().feed(0x742B7474, 0, 0, 0, 0);
        Probe.due("end(20)", p.book().end(20), 20);
        Probe.due("end(3)", p.book().end(3), 3);
        Probe.due("end(3)", p.book().end(3), 3);
        Probe.due("set()", p.book().set(), 1);
        p.book().feed(0x742B7474, 0, 0, 0, 0);
        Probe.due("end(0)", p.book().end(0), 0);
        Probe.due("end(1)", p.book().end(1), SetBook.NONE);
        Probe.due("set()", p.book().set(), Probe.wrongAt(0));
    }

    private static void endIsNone() {
        Probe.sentence("Promise 3: NONE if there are not so many, or n is below 0.");
        Probe p = new Probe();
        Probe.due("end(1) of none", p.book().end(1), SetBook.NONE);
        p.book().feed(0x742B742B, 0x742B742B, 0x742B742B, 0x742B742B, 0x742B7474);
        int[] refused = {21, 22, 2000, 2001, -1, -20, Integer.MIN_VALUE, Integer.MAX_VALUE};
        for (int n : refused) {
            Probe.due("end(" + n + ")", p.book().end(n), SetBook.NONE);
        }
        Probe.due("end(20) behind the refused ones", p.book().end(20), 20);
        Probe.due("set()", p.book().set(), Probe.wrongAt(18));
    }

    private static void number(Probe p, int d, int k, int mark, int want) {
        Probe.due("number(" + d + ", " + k + ", " + mark + ")", p.book().number(d, k, mark), want);
    }

    private static void markPuts() {
        Probe.sentence("Promise 5: an INT -1000000 .. 1000000 ..: that is its number there");
        Probe p = Probe.small();
        String[] values = {"0", "1", "-1", "1000000", "-1000000", "999999", "-999999"};
        for (String value : values) {
            p.mark("d m " + value, 1);
            number(p, 0, 4, 0, Integer.parseInt(value));
        }
        number(p, 0, 4, 1, SetBook.NOTHING);
        p.mark("y r 4", 1);
        number(p, 1, 2, 1, 4);
        number(p, 1, 2, 0, SetBook.NOTHING);
        number(p, 0, 4, 0, -999999);
        p.mark("a m 1000001", Probe.wrongAt(4));
        p.mark("a m -1000001", Probe.wrongAt(4));
        number(p, 0, 1, 0, SetBook.NOTHING);
    }

    private static void markTakesAway() {
        Probe.sentence("Promise 5: or - alone: .. or none");
        Probe p = Probe.marked();
        p.mark("a m -", 4);
        number(p, 0, 1, 0, SetBook.NOTHING);
        p.mark("a m -", 4);
        p.mark("t r -", 1);
        p.mark("d r -", 0);
        number(p, 0, 4, 1, SetBook.NOTHING);
        number(p, 0, 3, 0, 7);
        Probe.wrongs(Probe::marked, Probe.Text.MARK, "a m - ", "5", "a m --", "5", "a m -\n", "5", "a m -m", "5", "a m ", "4",
                "a m  -", "4");
    }

    private static void markCounts() {
        Probe.sentence("Promise 5: how many MEMBERS have one at that MARK.");
        Probe p = new Probe();
        p.tree(Probe.wide("a", 2) + Probe.wide("b", 1) + "mar m\nmar n\nmar o\n", 5);
        String[] names = {"a", "a0", "a1", "b", "b0"};
        for (int i = 0; i < names.length; i++) {
            p.mark(names[i] + " o 0", i + 1);
        }
        p.mark("a1 o 3", 5);
        p.mark("a1 n 3", 1);
        p.mark("a1 m -", 0);
        p.mark("b o -", 4);
        p.mark("b0 o -", 3);
    }

    private static void markIsWrong() {
        Probe.sentence("Promise 5: WRONG.");
        Probe.wrongs(Probe::busy, Probe.Text.MARK, "", "0", "a", "1", "a m", "3", "m a 1", "0", "a a 1", "2", "q m 1", "0",
                "a m 1000001", "4", "a m 1 ", "5", "a m 1.5", "5", "a m 1e5", "5", "t.a m 1", "1");
    }

    private static void keep(Probe p, int k, int want) {
        Probe.due("keep(" + k + ")", p.book().keep(k), want);
    }

    private static void drop(Probe p, int k, int want) {
        Probe.due("drop(" + k + ")", p.book().drop(k), want);
    }

    private static void keepKeeps() {
        Probe.sentence("Promise 7: THE SET is KEPT at k, 0 .. 5 ..: how many TUPLES it has.");
        Probe p = Probe.small();
        p.set("t.all", 5);
        for (int k = 0; k < 6; k++) {
            keep(p, k, 5);
            p.counts(5, k + 1);
        }
        p.set("t.up", 0);
        keep(p, 5, 0);
        p.counts(5, 6);
        p.makes("#5", "");
        p.makes("#4", "t a c d b");
        p.counts(3, 5);
    }

    private static void keepInPlaceOfWhatWas() {
        Probe.sentence("Promise 7: in place of what was");
        Probe p = Probe.small();
        p.set("t.all", 5);
        keep(p, 2, 5);
        p.set("a*x", 1);
        keep(p, 2, 1);
        p.counts(5, 1);
        p.makes("#2", "a.x");
        p.set("#2+#2", 1);
        keep(p, 2, 1);
        p.set("#2*b", Probe.wrongAt(3));
        p.set("p.kids", 2);
        keep(p, 2, 2);
        p.makes("#2", "x y");
        drop(p, 2, 2);
    }

    private static void keepAsItIs() {
        Probe.sentence("Promise 7: as it is");
        Probe p = Probe.marked();
        p.set("rise(t.kids,m)", 2);
        keep(p, 1, 2);
        p.mark("a m 0", 5);
        p.makes("#1", "b a");
        p.makes("turn(#1)+c", "a b c");
        p.makes("head(#1,1)", "b");
        p.makes("fall(#1,m)", "b a");
        p.makes("rise(#1,m)", "a b");
        p.makes("#1-b", "a");
        p.makes("#1*x", "b.x a.x");
        p.makes("{#1^b}", "a");
        p.makes("#1", "b a");
    }

    private static void keepIsNone() {
        Probe.sentence("Promise 7: NONE if there is no such k, or it has no DIMENSIONS.");
        Probe p = Probe.small();
        for (int k = -1; k < 7; k++) {
            keep(p, k, SetBook.NONE);
        }
        p.counts(5, 0);
        p.set("a", 1);
        for (int k : NEITHER_0_TO_5) {
            keep(p, k, SetBook.NONE);
        }
        p.counts(5, 0);
        keep(p, 0, 1);
        p.tree(Probe.SMALL, 8);
        keep(p, 0, SetBook.NONE);
        p.counts(5, 0);
        p.set("a+", Probe.wrongAt(2));
        keep(p, 0, SetBook.NONE);
    }

    private static void dropDrops() {
        Probe.sentence("Promise 8: What is KEPT at k is gone: how many TUPLES it had");
        Probe p = Probe.small();
        p.set("t.all", 5);
        keep(p, 0, 5);
        p.set("t.kids", 2);
        keep(p, 5, 2);
        p.set("t.up", 0);
        keep(p, 3, 0);
        drop(p, 5, 2);
        p.counts(5, 2);
        p.set("#5", Probe.wrongAt(0));
        drop(p, 3, 0);
        p.counts(5, 1);
        p.set("#3", Probe.wrongAt(0));
        p.makes("#0", "t a c d b");
        drop(p, 0, 5);
        p.counts(5, 0);
        p.counts(3, 5);
        Probe.due("THE SET stays", p.tuples(), "t a c d b");
        keep(p, 0, 5);
        p.makes("#0", "t a c d b");
    }

    private static void dropIsNone() {
        Probe.sentence("Promise 8: NONE if there is none.");
        Probe p = Probe.small();
        for (int k = 0; k < 6; k++) {
            drop(p, k, SetBook.NONE);
        }
        p.set("a", 1);
        keep(p, 0, 1);
        keep(p, 5, 1);
        for (int k : NEITHER_0_TO_5) {
            drop(p, k, SetBook.NONE);
        }
        drop(p, 1, SetBook.NONE);
        drop(p, 4, SetBook.NONE);
        p.counts(5, 2);
        drop(p, 5, 1);
        drop(p, 5, SetBook.NONE);
        drop(p, 0, 1);
        drop(p, 0, SetBook.NONE);
    }

    private static void tuple(Probe p, int i, int dimension, int want) {
        Probe.due("tuple(" + i + ", " + dimension + ")", p.book().tuple(i, dimension), want);
    }

    private static void tupleTells() {
        Probe.sentence("Promise 9: The MEMBER of a DIMENSION that TUPLE i of THE SET, from 0 on, has");
        Probe p = Probe.small();
        p.set("p.all*a.all", 9);
        int[] ofA = {1, 3, 4};
        for (int i = 0; i < 9; i++) {
            tuple(p, i, 0, ofA[i % 3]);
            tuple(p, i, 1, i / 3);
        }
        p.tree(Probe.wide("a", 29) + Probe.wide("b", 29) + Probe.wide("c", 29) + Probe.wide("d", 29) + "mar m\n", 120);
        p.set("d28*a*c28*b+d*a28*c*b28", 2);
        int[] first = {0, 0, 29, 29};
        for (int d = 0; d < 4; d++) {
            tuple(p, 0, d, first[d]);
            tuple(p, 1, d, 29 - first[d]);
        }
        tuple(p, 0, 4, SetBook.NONE);
        tuple(p, 2, 0, SetBook.NONE);
    }

    private static void tupleIsNone() {
        Probe.sentence("Promise 9: NONE if there is no such TUPLE, or it has none of that.");
        Probe p = Probe.small();
        tuple(p, 0, 0, SetBook.NONE);
        p.set("t.kids", 2);
        tuple(p, 1, 0, 2);
        tuple(p, 2, 0, SetBook.NONE);
        tuple(p, 0, 1, SetBook.NONE);
        tuple(p, 0, 2, SetBook.NONE);
        tuple(p, 0, 4, SetBook.NONE);
        for (int far : Probe.FAR) {
            tuple(p, far, 0, SetBook.NONE);
            tuple(p, 0, far, SetBook.NONE);
            tuple(p, far, far, SetBook.NONE);
        }
        p.set("x", 1);
        tuple(p, 0, 0, SetBook.NONE);
        tuple(p, 1, 1, SetBook.NONE);
        p.set("t.up", 0);
        tuple(p, 0, 0, SetBook.NONE);
        p.set("t.kids*p.up", 0);
        tuple(p, 0, 0, SetBook.NONE);
        tuple(p, 0, 1, SetBook.NONE);
    }

    private static void shows(Probe p, int i, int k, int want) {
        Probe.due("shows(" + i + ", " + k + ")", p.book().shows(i, k), want);
    }

    private static void showsTells() {
        Probe.sentence("Promise 10: What TUPLE i of THE SET shows at MARK k");
        Probe p = new Probe();
        p.tree("dim t\nmem a t\ndim p\nmar m\nmar n\nmar o\n", 3);
        p.mark("a m 1", 1);
        p.mark("p m 2", 2);
        p.mark("a n -5", 1);
        p.mark("p n 5", 2);
        p.mark("a o -1000000", 1);
        p.mark("p o -1000000", 2);
        p.set("t*p+a*p", 2);
        shows(p, 1, 0, 3);
        shows(p, 1, 1, 0);
        shows(p, 1, 2, -2000000);
        p.mark("p o 7", 2);
        shows(p, 1, 2, -999993);
        p.set("p*a", 1);
        shows(p, 0, 0, 3);
    }

    private static void showsNothing() {
        Probe.sentence("Promise 10: NOTHING if it shows none, or there is none such.");
        Probe p = Probe.marked();
        shows(p, 0, 0, SetBook.NOTHING);
        p.set("a*x+d*x+a*p", 3);
        shows(p, 0, 0, 6);
        shows(p, 1, 0, SetBook.NOTHING);
        shows(p, 2, 0, SetBook.NOTHING);
        shows(p, 0, 1, SetBook.NOTHING);
        shows(p, 3, 0, SetBook.NOTHING);
        shows(p, 0, 2, SetBook.NOTHING);
        shows(p, 0, 3, SetBook.NOTHING);
        for (int far : Probe.FAR) {
            shows(p, far, 0, SetBook.NOTHING);
            shows(p, 0, far, SetBook.NOTHING);
            shows(p, far, far, SetBook.NOTHING);
        }
        p.set("t.up", 0);
        shows(p, 0, 0, SetBook.NOTHING);
        Probe full = new Probe();
        full.tree(Probe.wide("a", 20) + Probe.wide("b", 10) + "mar m\nmar n\nmar o\n", 32);
        full.mark("a19 o 1", 1);
        full.mark("b9 o 1", 2);
        full.set("a.kids*b.kids", 200);
        shows(full, 199, 2, 2);
        shows(full, 199, 3, SetBook.NOTHING);
        shows(full, 200, 2, SetBook.NOTHING);
        shows(full, 200, 3, SetBook.NOTHING);
    }
}
