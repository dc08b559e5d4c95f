/** Promises 11 to 13, 15 and 16: place, print, printed, number and count: for each sentence the cases at its edge. */
public final class SheetEdgesTest {
    private static final Probe.Text PLACE = Probe.Text.PLACE;

    public static void main(String[] args) {
        placeTells();
        placeIsNone();
        placeOfAnotherDimension();
        placeOfMore();
        placeOfFewer();
        placeWithoutDimensions();
        printWrites();
        printOfNoTuples();
        printIsFull();
        printedTells();
        printedIsNone();
        numberTells();
        numberIsNothing();
        countTells();
        countOfAnotherWhat();
        Probe.finish();
    }

    private static Probe ofOne() {
        Probe p = Probe.small();
        p.set("t.kids", 2);
        return p;
    }

    private static Probe ofFour() {
        Probe p = new Probe();
        p.tree("dim a\nmem a1 a\ndim b\nmem b1 b\ndim c\nmem c1 c\ndim d\nmem d1 d\nmar m\n", 8);
        p.set("d.all*b*a.all*c1", 4);
        return p;
    }

    private static void placeTells() {
        Probe.sentence("Promise 11: its place in THE SET, from 0 on");
        Probe p = ofFour();
        p.place("d.b.a.c1", 0);
        p.place("d.b.a1.c1", 1);
        p.place("d1.b.a1.c1", 3);
        p.set("b", 1);
        p.place("b", 0);
        p.tree(Probe.wide("a", 20) + Probe.wide("b", 10) + "mar m\n", 32);
        p.set("a.kids*b.kids", 200);
        p.place("a0.b0", 0);
        p.place("a19.b9", 199);
        p.place("a19.b8", 198);
        p.set("turn(a.kids*b.kids)", 200);
        p.place("a0.b0", 199);
    }

    private static void placeIsNone() {
        Probe.sentence("Promise 11: NONE if it is none of it.");
        Probe p = Probe.small();
        p.set("t.kids*p.kids-a*x", 3);
        p.place("a.x", SetBook.NONE);
        p.place("t.p", SetBook.NONE);
        p.place("a.y", 0);
        p.set("t.up", 0);
        p.place("t", SetBook.NONE);
        p.set("t.up*p", 0);
        p.place("t.p", SetBook.NONE);
        p.place("t", Probe.wrongAt(1));
    }

    private static void placeOfAnotherDimension() {
        Probe.sentence("Promise 11: of the DIMENSIONS of THE SET in their order (else WRONG at that NAME");
        Probe.wrongs(SheetEdgesTest::ofOne, PLACE, "x", "0", "p", "0", "q", "0", "m", "0", "x.a", "0");
        Probe.wrongs(Probe::busy, PLACE, "x.a", "0", "x", "0", "a.b", "2", "a.a", "2", "a.b.x", "2", "q.x", "0", "a.q", "2",
                "a.m", "2", "m.x", "0", "a.kids", "2");
        Probe.wrongs(SheetEdgesTest::ofFour, PLACE, "a.b.c.d", "0", "d.a.b.c", "2", "d.b.c.a", "4", "d.b.a.d1", "6",
                "d.b.a.q", "6");
    }

    private static void placeOfMore() {
        Probe.sentence("Promise 11: at the . .., if they are more");
        Probe.wrongs(SheetEdgesTest::ofOne, PLACE, "a.x", "1", "a.b", "1", "a.", "1", "a.q", "1", "a..", "1");
        Probe.wrongs(Probe::busy, PLACE, "a.x.y", "3", "a.x.", "3", "a.x.q", "3", "a.x.abcdefghi", "3");
        Probe.wrongs(SheetEdgesTest::ofFour, PLACE, "d.b.a.c1.d", "8", "d.b.a.c1.", "8");
    }

    private static void placeOfFewer() {
        Probe.sentence("Promise 11: or the end, if they are .. fewer)");
        Probe.wrongs(SheetEdgesTest::ofOne, PLACE, "", "0");
        Probe.wrongs(Probe::busy, PLACE, "", "0", "a", "1", "a.", "2", "t", "1");
        Probe.wrongs(SheetEdgesTest::ofFour, PLACE, "d", "1", "d.b", "3", "d.b.a", "5", "d.b.a.", "6");
        Probe p = Probe.small();
        p.set("t.up", 0);
        p.place("", Probe.wrongAt(0));
    }

    private static void placeWithoutDimensions() {
        Probe.sentence("Promise 11: NAMES .. of the DIMENSIONS of THE SET, while it has none");
        Probe p = new Probe();
        p.place("", SetBook.NONE);
        p.place("t", Probe.wrongAt(0));
        p.place(".", Probe.wrongAt(0));
        p.place("q", Probe.wrongAt(0));
        p.place("t.t", Probe.wrongAt(0));
        p.set("t", 1);
        p.place("", Probe.wrongAt(0));
        p.place("t", 0);
        p.tree("dim t\nmar m\n", 1);
        p.place("", SetBook.NONE);
        p.place("t", Probe.wrongAt(0));
    }

    private static void sheet(Probe p, String want) {
        Probe.due("print()", p.book().print(), want.length());
        Probe.due("THE SHEET", p.sheet(), want);
        p.counts(6, want.length());
    }

    private static void printWrites() {
        Probe.sentence("Promise 12: a line for each TUPLE of THE SET, the NAMES of its MEMBERS with . between, byte 10 behind: "
                + "how many bytes");
        Probe p = new Probe();
        p.set("t", 1);
        sheet(p, "t\n");
        p.tree("dim longname\nmem a1 longname\nmem b23456z8 a1\ndim p\ndim q\ndim z\nmar m\n", 6);
        p.set("longname.all", 3);
        sheet(p, "longname\na1\nb23456z8\n");
        p.set("z*a1*q*p", 1);
        sheet(p, "z.a1.q.p\n");
        p.set("p*{a1+b23456z8}", 2);
        sheet(p, "p.a1\np.b23456z8\n");
        p.set("q", 1);
        Probe.due("it stays until it is printed again", p.sheet(), "p.a1\np.b23456z8\n");
    }

    private static void printOfNoTuples() {
        Probe.sentence("Promise 12: a line for each TUPLE of THE SET, of which there are none");
        Probe p = new Probe();
        sheet(p, "");
        p.set("t", 1);
        sheet(p, "t\n");
        p.set("t.up", 0);
        sheet(p, "");
        p.set("t", 1);
        sheet(p, "t\n");
        p.tree("dim t\nmar m\n", 1);
        sheet(p, "");
    }

    /** 10 MEMBERS of 5 letters with 20 of 8 make 200 lines of 15 bytes. */
    private static Probe threeThousand() {
        StringBuilder text = new StringBuilder("dim a\n");
        for (int i = 0; i < 10; i++) {
            text.append("mem a").append(i).append("xyz a\n");
        }
        text.append("mem sixsix a0xyz\nmem four a0xyz\ndim b\n");
        for (int i = 10; i < 30; i++) {
            text.append("mem longna").append(i).append(" b\n");
        }
        Probe p = new Probe();
        p.tree(text + "dim c\nmar m\n", 35);
        p.set("a.kids*b.kids", 200);
        Probe.due("keep(0)", p.book().keep(0), 200);
        return p;
    }

    private static void printIsFull() {
        Probe.sentence("Promise 12: FULL, and it stays, if there would be more than 3,000.");
        Probe p = threeThousand();
        Probe.due("print() of 3,000", p.book().print(), 3000);
        p.counts(6, 3000);
        p.set("a0xyz*longna10", 1);
        sheet(p, "a0xyz.longna10\n");
        p.set("tail(#0,199)+sixsix*longna10", 200);
        Probe.due("print() of 3,001", p.book().print(), SetBook.FULL);
        p.counts(6, 15);
        Probe.due("THE SHEET stays", p.sheet(), "a0xyz.longna10\n");
        p.set("#0*c", 200);
        Probe.due("print() of 3,400", p.book().print(), SetBook.FULL);
        Probe.due("THE SHEET stays", p.sheet(), "a0xyz.longna10\n");
        p.set("tail(#0,199)+four*longna10", 200);
        Probe.due("print() of 2,999", p.book().print(), 2999);
        p.set("tail(#0,199)+sixsix*longna10", 200);
        Probe.due("print() of 3,001", p.book().print(), SetBook.FULL);
        p.counts(6, 2999);
        Probe.due("printed(2998)", p.book().printed(2998), 10);
    }

    private static void printedTells() {
        Probe.sentence("Promise 13: Byte i of THE SHEET");
        Probe p = threeThousand();
        Probe.due("print()", p.book().print(), 3000);
        String first = "a0xyz.longna10\n";
        String last = "a9xyz.longna29\n";
        for (int i = 0; i < 15; i++) {
            Probe.due("printed(" + i + ")", p.book().printed(i), (int) first.charAt(i));
            Probe.due("printed(" + (2985 + i) + ")", p.book().printed(2985 + i), (int) last.charAt(i));
        }
        Probe.due("printed(3000)", p.book().printed(3000), SetBook.NONE);
        p.set("a", 1);
        Probe.due("print()", p.book().print(), 2);
        Probe.due("printed(1)", p.book().printed(1), 10);
        Probe.due("printed(2)", p.book().printed(2), SetBook.NONE);
        Probe.due("printed(2999)", p.book().printed(2999), SetBook.NONE);
    }

    private static void printedIsNone() {
        Probe.sentence("Promise 13: (at first nothing); NONE.");
        Probe p = new Probe();
        Probe.due("printed(0)", p.book().printed(0), SetBook.NONE);
        p.set("t", 1);
        Probe.due("printed(0)", p.book().printed(0), SetBook.NONE);
        p.book().print();
        Probe.due("printed(0)", p.book().printed(0), (int) 't');
        Probe.due("printed(2)", p.book().printed(2), SetBook.NONE);
        Probe.due("printed(3000)", p.book().printed(3000), SetBook.NONE);
        for (int far : Probe.FAR) {
            Probe.due("printed(" + far + ")", p.book().printed(far), SetBook.NONE);
        }
        p.set("t.up", 0);
        p.book().print();
        Probe.due("printed(0)", p.book().printed(0), SetBook.NONE);
    }

    private static void number(Probe p, int d, int k, int mark, int want) {
        Probe.due("number(" + d + ", " + k + ", " + mark + ")", p.book().number(d, k, mark), want);
    }

    private static void numberTells() {
        Probe.sentence("Promise 15: The number of a MEMBER at a MARK");
        Probe p = new Probe();
        p.tree(Probe.wide("a", 29) + Probe.wide("b", 29) + Probe.wide("c", 29) + Probe.wide("d", 29)
                + "mar m\nmar n\nmar o\n", 120);
        p.mark("d28 o 1000000", 1);
        p.mark("a m -1000000", 1);
        p.mark("d m 1", 2);
        p.mark("a28 o 0", 2);
        number(p, 3, 29, 2, 1000000);
        number(p, 0, 0, 0, -1000000);
        number(p, 3, 0, 0, 1);
        number(p, 0, 29, 2, 0);
        number(p, 3, 29, 1, SetBook.NOTHING);
        number(p, 3, 29, 0, SetBook.NOTHING);
        number(p, 1, 0, 0, SetBook.NOTHING);
    }

    private static void numberIsNothing() {
        Probe.sentence("Promise 15: NOTHING if it has none, or there is none such.");
        Probe p = Probe.marked();
        number(p, 0, 1, 0, 5);
        number(p, 0, 1, 1, SetBook.NOTHING);
        number(p, 0, 0, 0, SetBook.NOTHING);
        number(p, 0, 1, 2, SetBook.NOTHING);
        number(p, 0, 1, 3, SetBook.NOTHING);
        number(p, 0, 5, 0, SetBook.NOTHING);
        number(p, 1, 3, 0, SetBook.NOTHING);
        number(p, 2, 0, 0, SetBook.NOTHING);
        number(p, 4, 0, 0, SetBook.NOTHING);
        // beside what there is, where another MEMBER's number might lie
        number(p, 0, 33, 0, SetBook.NOTHING);
        number(p, 1, -31, 0, SetBook.NOTHING);
        number(p, -1, 33, 1, SetBook.NOTHING);
        for (int far : Probe.FAR) {
            number(p, far, 1, 0, SetBook.NOTHING);
            number(p, 0, far, 0, SetBook.NOTHING);
            number(p, 0, 1, far, SetBook.NOTHING);
            number(p, far, far, far, SetBook.NOTHING);
        }
        p.mark("a m -", 4);
        number(p, 0, 1, 0, SetBook.NOTHING);
        Probe full = new Probe();
        full.tree(Probe.wide("a", 29) + Probe.wide("b", 29) + Probe.wide("c", 29) + Probe.wide("d", 29)
                + "mar m\nmar n\nmar o\n", 120);
        full.mark("d28 o 1", 1);
        full.mark("a n 1", 1);
        int[][] beyond = {{4, 0, 0}, {4, 0, 2}, {0, 30, 0}, {3, 30, 2}, {3, 32, 2}, {3, 29, 3}, {0, 0, 3}, {0, 0, 4}};
        for (int[] dkm : beyond) {
            number(full, dkm[0], dkm[1], dkm[2], SetBook.NOTHING);
        }
    }

    private static void countTells() {
        Probe.sentence("Promise 16: What 0: DIMENSIONS, 1: MARKS, 2: MEMBERS in all, 3: TUPLES of THE SET, "
                + "4: its DIMENSIONS, 5: SETS that are KEPT, 6: bytes of THE SHEET");
        Probe p = Probe.busy();
        int[] want = {2, 2, 8, 4, 2, 2, 2};
        for (int what = 0; what < want.length; what++) {
            p.counts(what, want[what]);
        }
        Probe four = ofFour();
        int[] ofFour = {4, 1, 8, 4, 4, 0, 0};
        for (int what = 0; what < ofFour.length; what++) {
            four.counts(what, ofFour[what]);
        }
        for (int k = 0; k < 6; k++) {
            four.book().keep(k);
            four.counts(5, k + 1);
        }
        four.set("a.up", 0);
        four.counts(3, 0);
        four.counts(4, 1);
        four.counts(5, 6);
    }

    private static void countOfAnotherWhat() {
        Probe.sentence("Promise 16: NONE for another what.");
        Probe p = Probe.busy();
        p.counts(7, SetBook.NONE);
        p.counts(8, SetBook.NONE);
        for (int far : Probe.FAR) {
            p.counts(far, SetBook.NONE);
        }
    }
}
