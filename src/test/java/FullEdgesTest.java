/** Part III, at most 200 TUPLES, and promise 6 where it is FULL: for each sentence the cases at its edge. */
public final class FullEdgesTest {
    public static void main(String[] args) {
        itemOfTwoHundred();
        setOfTwoHundred();
        withinAnother();
        onTheWay();
        notOnTheWay();
        theSetStays();
        wrongGoesAhead();
        Probe.finish();
    }

    /** a.kids with b.kids make 200 TUPLES; c.all with d.all make 203, the fewest that are too many in an ITEM. */
    private static Probe wide() {
        Probe p = new Probe();
        p.tree(Probe.wide("a", 20) + Probe.wide("b", 10) + Probe.wide("c", 28) + Probe.wide("d", 6) + "mar m\n", 68);
        p.set("a.kids*b.kids", 200);
        Probe.due("keep(0)", p.book().keep(0), 200);
        return p;
    }

    private static void sets(int want, String... texts) {
        Probe p = wide();
        for (String text : texts) {
            p.set(text, want);
        }
    }

    private static void itemOfTwoHundred() {
        Probe.sentence("A SET or an ITEM .. has at most 200 TUPLES (an ITEM)");
        sets(200, "a.kids*b.kids", "b.kids*a.kids", "#0", "#0*c", "c*#0", "#0*d.deep", "c0*#0*d0");
        sets(SetBook.FULL, "c.all*d.all", "d.all*c.all", "a.all*b.kids", "a.kids*b.all", "#0*{c+c0}", "{c+c0}*#0",
                "a.kids*{b.kids*d.all}", "a.all*b.all*c.all*d.all", "c.kids*d.all*a*b.all");
        Probe p = wide();
        p.set("c.kids*d.all", 196);
        p.set("a.kids*b.kids*c", 200);
        Probe.due("tuple(199, 0)", p.book().tuple(199, 0), 20);
        Probe.due("tuple(199, 1)", p.book().tuple(199, 1), 10);
        Probe.due("tuple(199, 2)", p.book().tuple(199, 2), 0);
        Probe.due("tuple(200, 0)", p.book().tuple(200, 0), SetBook.NONE);
    }

    private static void setOfTwoHundred() {
        Probe.sentence("A SET or an ITEM .. has at most 200 TUPLES (a SET)");
        sets(200, "#0+#0", "#0+a0*b0", "a0*b0+#0", "#0^{#0-#0}", "#0-a0*b0+a*b", "#0^a0*b0^a*b", "#0&#0", "#0-a*b",
                "head(#0,199)+a*b", "{head(#0,100)}+{tail(#0,100)}", "head(#0,199)^a*b");
        sets(SetBook.FULL, "#0+a*b", "a*b+#0", "#0^a*b", "a*b^#0", "head(#0,199)+a*b+a*b0", "#0+a.all*b",
                "head(#0,199)^a*b^a*b0");
    }

    private static void withinAnother() {
        Probe.sentence("A SET or an ITEM, also within another one, has at most 200 TUPLES");
        sets(SetBook.FULL, "{#0+a*b}", "{c.all*d.all}", "turn(#0+a*b)", "turn(c.all*d.all)", "{{{{{#0+a*b}}}}}",
                "head(#0+a*b,1)", "tail(#0+a*b,1)", "head(c.all*d.all,0)", "full(#0+a*b,m)", "over(c.all*d.all,m,1)",
                "under(c.all*d.all,m,1)", "rise(#0+a*b,m)", "fall(#0+a*b,m)", "top(#0+a*b,1,m)", "low(#0+a*b,1,m)",
                "a*b&{#0+a*b}", "a*b-{#0+a*b}");
        sets(1, "head(#0,1)", "{head({#0},1)}", "a0*b0&{#0}", "tail(turn(#0),1)");
    }

    private static void onTheWay() {
        Probe.sentence("with more, if only on the way, the text is FULL");
        sets(SetBook.FULL, "#0+a*b-a*b", "#0+a*b-#0", "#0+a*b&a*b", "#0^a*b^a*b", "a*b-a.all*b.all", "a*b&a.all*b.all",
                "a.all*b.all*c.up", "c.all*d.all*a.up", "{c.all*d.all}-{c.all*d.all}", "#0-#0+a.all*b.all-a.all*b.all");
        // what comes behind is read on, whatever is done with what was too much
        sets(SetBook.FULL, "c.all*d.all+c*d", "c.all*d.all-c*d", "c.all*d.all&c*d", "c.all*d.all^c*d", "c*d^c.all*d.all",
                "c*d+c.all*d.all", "{c.all*d.all}*a.kids", "a.kids*{c.all*d.all}", "tail({c.all*d.all},1)",
                "turn({c.all*d.all})", "fall({c.all*d.all},m)", "top({c.all*d.all},1,m)", "tail({#0^a*b},1)*{c.all*d.all}");
    }

    private static void notOnTheWay() {
        Probe.sentence("at most 200 TUPLES: what never has more is not FULL");
        sets(0, "c.up*a.all*b.all", "a.all*c.up*b.all", "a.all*{b.all*c.up}", "#0*c.up", "c.up*#0", "#0^#0", "#0-#0");
        sets(1, "#0-#0+a*b", "#0&a0*b0", "#0-tail(#0,199)");
    }

    private static void theSetStays() {
        Probe.sentence("Promise 6: FULL, and THE SET stays.");
        Probe p = wide();
        p.makes("a0*b+a1*b", "a0.b a1.b");
        p.set("#0+a*b", SetBook.FULL);
        p.counts(3, 2);
        p.counts(4, 2);
        p.counts(5, 1);
        Probe.due("THE SET", p.tuples(), "a0.b a1.b");
        p.set("c.all*d.all", SetBook.FULL);
        Probe.due("THE SET", p.tuples(), "a0.b a1.b");
        p.set("turn(#0+a*b)", SetBook.FULL);
        Probe.due("keep(1)", p.book().keep(1), 2);
        p.makes("#1", "a0.b a1.b");
        p.set("#0", 200);
        Probe.due("tuple(0, 1)", p.book().tuple(0, 1), 1);
        p.set("#0+a*b", SetBook.FULL);
        Probe.due("tuple(199, 1)", p.book().tuple(199, 1), 10);
        Probe without = new Probe();
        without.tree(Probe.wide("a", 29) + Probe.wide("b", 29) + "mar m\n", 60);
        without.set("a.all*b.all", SetBook.FULL);
        without.counts(3, 0);
        without.counts(4, 0);
        Probe.due("keep(0)", without.book().keep(0), SetBook.NONE);
    }

    private static void wrongGoesAhead() {
        Probe.sentence("Promise 6: WRONG; FULL: a text that is no SET is WRONG, also if there would be too many");
        Probe p = wide();
        p.set("#0+a*b+", Probe.wrongAt(7));
        p.set("c.all*d.all?", Probe.wrongAt(11));
        p.set("c.all*d.all+c", Probe.wrongAt(12));
        p.set("c.all*d.all*c", Probe.wrongAt(12));
        p.set("tree(c.all*d.all)", Probe.wrongAt(5));
        p.set("head(c.all*d.all,x)", Probe.wrongAt(17));
        p.set("{c.all*d.all", Probe.wrongAt(12));
        p.set("#0+a*b+b*a", Probe.wrongAt(7));
        p.set("#0+a*b+#1", Probe.wrongAt(7));
    }
}
