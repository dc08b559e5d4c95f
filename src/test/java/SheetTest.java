/** Promises 12 and 13: print and printed. */
public final class SheetTest {
    public static void main(String[] args) {
        prints();
        staysUntilPrinted();
        threeThousand();
        Probe.finish();
    }

    private static void sheet(Probe p, String want) {
        Probe.due("print()", p.book().print(), want.length());
        Probe.due("the sheet", p.sheet(), want);
        Probe.due("printed behind it", p.book().printed(want.length()), SetBook.NONE);
    }

    private static void prints() {
        Probe p = new Probe();
        sheet(p, "");
        p.tree("dim longname\nmem a1 longname\nmem b23456z8 a1\ndim p\nmar m\n", 4);
        p.set("longname.all", 3);
        sheet(p, "longname\na1\nb23456z8\n");
        p.set("p*longname.all", 3);
        sheet(p, "p.longname\np.a1\np.b23456z8\n");
        p.set("longname.up", 0);
        sheet(p, "");
    }

    private static void staysUntilPrinted() {
        Probe p = Probe.small();
        p.set("a", 1);
        p.counts(6, 0);
        Probe.due("printed(0)", p.book().printed(0), SetBook.NONE);
        sheet(p, "a\n");
        p.set("b*x", 1);
        Probe.due("the sheet", p.sheet(), "a\n");
        int[] off = {-1, 2, 3000, Integer.MIN_VALUE, Integer.MAX_VALUE};
        for (int i : off) {
            Probe.due("printed(" + i + ")", p.book().printed(i), SetBook.NONE);
        }
        sheet(p, "b.x\n");
        p.tree("dim t\nmar m\n", 1);
        Probe.due("the sheet", p.sheet(), "b.x\n");
        sheet(p, "");
    }

    /** 10 MEMBERS of 5 letters with 20 of 8 make 200 lines of 15 bytes: 3,000. */
    private static void threeThousand() {
        StringBuilder text = new StringBuilder("dim a\n");
        for (int i = 0; i < 10; i++) {
            text.append("mem a").append(i).append("xyz a\n");
        }
        text.append("mem sixsix a0xyz\ndim b\n");
        for (int i = 10; i < 30; i++) {
            text.append("mem longna").append(i).append(" b\n");
        }
        Probe p = new Probe();
        p.tree(text + "dim c\nmar m\n", 34);
        p.set("a.kids*b.kids", 200);
        p.book().keep(0);
        Probe.due("print()", p.book().print(), 3000);
        Probe.due("printed(2999)", p.book().printed(2999), 10);
        Probe.due("printed(3000)", p.book().printed(3000), SetBook.NONE);
        p.set("head(#0,1)", 1);
        sheet(p, "a0xyz.longna10\n");
        p.set("tail(#0,199)+sixsix*longna10", 200);
        Probe.due("print()", p.book().print(), SetBook.FULL);
        Probe.due("the sheet stays", p.sheet(), "a0xyz.longna10\n");
        p.set("tail(#0,198)+sixsix*longna10", 199);
        Probe.due("print()", p.book().print(), 2986);
        p.set("#0*c", 200);
        Probe.due("print()", p.book().print(), SetBook.FULL);
        p.counts(6, 2986);
    }
}
