/** Promise 6: set, of texts that are WRONG or FULL. */
public final class SetWrongTest {
    private static final String[] WRONGS = {
        // the text, and the place at which it is WRONG, over Probe.SMALL with SETS of t and p KEPT at 0
        "", "0", " ", "0", "A", "0", "1", "0", "+", "0", ")", "0", "a ", "1", "a+", "2", "a++b", "2", "a*", "2",
        "a|b", "1", "a,b", "1", "a}", "1", "a)", "1", "ab", "0", "a\n", "1", "a+ b", "2", "a\0", "1",
        "q", "0", "m", "0", "dim", "0", "abcdefghi", "8", "abcdefgh", "0", "a+abcdefghij", "10", "a(", "1",
        // ACTS
        "a.", "2", "a.k", "2", "a.kid", "2", "a.kidss", "2", "a.kids1", "2", "a.abcdefghijk", "2", "a.1", "2",
        "a.Kids", "2", "a.kidS", "2", "a..", "2", "a.kids.all", "6", "a.kids(", "6", "a.head", "2", "a.kids a", "6",
        // what is KEPT
        "#", "1", "#6", "1", "#9", "1", "#a", "1", "##", "1", "#1", "0", "#5", "0", "#0.all", "2", "#00", "2",
        "a*#1", "2", "#0a", "2",
        // braces
        "{", "1", "{}", "1", "{a", "2", "{a)", "2", "{a}}", "3", "{a}.all", "3", "{a+}", "3", "{q}", "1",
        "{{{{{{a", "5", "{{{{{{", "5", "{{{{{head(a,1)}}}}}", "5", "{{{{{head", "5", "{{{{{q", "5",
        "{{{{{a+{a}}}}}}", "7", "turn(turn(turn(turn(turn(turn(a))))))", "25",
        "turn(turn(turn(turn(turn({a})))))", "25", "{{{{{turn", "5", "{{{{{abcdefghi", "13",
        // FUNCTIONS
        "head", "4", "head+", "4", "head.all", "4", "hea", "0", "heads(a,1)", "0", "head(", "5", "head()", "5",
        "head(a", "6", "head(a)", "6", "head(a,", "7", "head(a,)", "7", "head(a,x)", "7", "head(a,-1)", "7",
        "head(a,1", "8", "head(a,1,", "8", "head(a,1))", "9", "head(a,01)", "8", "head(a,00)", "8",
        "head(a,1234567890)", "16", "head(a,12345678901)", "16", "head(a,1x)", "8", "head(a,1).all", "9",
        "head(q,1)", "5", "head(a,1)b", "9", "head(a b)", "6", "head {a,1}", "4",
        "tail(a,m)", "7", "full(a,a)", "7", "full(a,q)", "7", "full(a,q", "7", "full(a,1)", "7", "full(a,m,1)", "8",
        "full(a,m", "8", "full(a,mm)", "7", "full(a,abcdefghi)", "15", "full(a)", "6",
        "over(a,m)", "8", "over(a,m,)", "9", "over(a,m,-)", "10", "over(a,m,-0)", "10", "over(a,m,-01)", "10",
        "over(a,m,+1)", "9", "over(a,m,1234567890)", "18", "over(a,m,-1234567890)", "19", "over(a,m,--1)", "10",
        "over(a,1,m)", "7", "under(a,m,1", "11", "under(a,m,0", "11", "under(a,m,00)", "11",
        "rise(a)", "6", "rise(a,m,m)", "8", "fall(a,t)", "7", "top(a,m,1)", "6", "top(a,1)", "7", "low(a,1,1)", "8",
        "low(a,1,m", "9", "tree(a,1)", "6", "tree(", "5", "turn(a,m)", "6", "each(a)", "6", "each(a,m)", "7",
        "each(a,)", "7", "each(a,kid)", "7", "each(a,kids", "11", "each(a,kids1)", "7", "each(a,abcdefghi)", "7",
        // the DIMENSIONS of PARTS
        "a*b", "2", "a*a", "2", "a*b.kids", "2", "a*b.foo", "4", "a*b.", "4", "a*b(", "2", "a*b?", "2", "a*x*b", "4",
        "a*x*y", "4", "a*{b", "4", "a*{b}", "2", "a*{b*x}", "2", "a*{x*b}", "2", "{a*x}*y", "6", "a*#0", "2",
        "a*head(b,1)", "2", "a*head(b,1", "10", "a*x*q", "4", "a*b*q", "2", "a*tree(b*x)", "7", "a*t.up", "2",
        // the DIMENSIONS of ITEMS
        "a+x", "2", "a-x", "2", "a&x", "2", "a^x", "2", "a+x.kids", "2", "a+x.foo", "4", "a+x*b", "2", "a+x*", "4",
        "a+x*y", "4", "a*x+a", "4", "a*x+x*a", "4", "a*x+x*a?", "4", "a+b+x", "4", "a+x+q", "2", "a+x?", "2",
        "a+{x", "4", "a+{x}", "2", "a+{x+b}", "5", "{a+x}", "3", "head(a+x,1)", "7", "a+head(x,q)", "9",
        "a+head(x,1)", "2", "a+p.up", "2", "#0+x", "3", "x+#0", "2", "#0+a*x", "3", "a*x&a*x*y", "8",
        // the DIMENSIONS of a FUNCTION's SET
        "tree(a*x)", "5", "tree(a*x", "5", "tree(a*x?", "5", "tree({a*x})", "5", "each(a*x,kids)", "5",
        "each(a*x,foo)", "5", "each(a*x", "5", "tree(a*x+q)", "9", "tree(a*", "7", "tree(a+x)", "7",
        "turn(tree(p*a))", "10", "each(a*x*y,kids)", "9",
    };

    public static void main(String[] args) {
        wrongs();
        fulls();
        fullOnTheWay();
        wrongGoesAheadOfFull();
        aFunctionNamedAsAMember();
        Probe.finish();
    }

    private static void wrongs() {
        Probe.wrongs(SetWrongTest::withOneKept, Probe.Text.SET, WRONGS);
    }

    private static Probe withOneKept() {
        Probe p = Probe.small();
        p.set("a", 1);
        p.book().keep(0);
        p.makes("b+a.kids", "b c d");
        return p;
    }

    private static Probe wide() {
        Probe p = new Probe();
        p.tree(Probe.wide("a", 20) + Probe.wide("b", 10) + Probe.wide("c", 2) + "mar m\n", 35);
        return p;
    }

    private static void fulls() {
        Probe p = wide();
        p.set("a.kids*b.kids", 200);
        p.book().keep(0);
        p.set("a.all*b.kids", SetBook.FULL);
        p.counts(3, 200);
        p.counts(4, 2);
        p.set("a.kids*b.all", SetBook.FULL);
        p.set("#0+a*b", SetBook.FULL);
        p.set("a*b+#0", SetBook.FULL);
        p.set("#0+#0", 200);
        p.set("#0+a0*b0", 200);
        p.set("#0^a*b", SetBook.FULL);
        p.set("#0^#0", 0);
        p.set("#0^a0*b0", 199);
        p.set("#0-a0*b0+a*b", 200);
        p.set("#0&#0", 200);
        p.set("#0*c", 200);
        p.set("#0*c.kids", SetBook.FULL);
        p.set("c*#0", 200);
        p.set("#0*c.up", 0);
        p.counts(4, 3);
        p.set("turn(#0)", 200);
        p.set("each(a.all,deep)", 21);
        p.set("each(a.kids,sibs)", 20);
        p.set("turn(#0)", 200);
        Probe.due("tuple(0, 0)", p.book().tuple(0, 0), 20);
        Probe.due("tuple(199, 1)", p.book().tuple(199, 1), 1);
        p.set("#0*c.kids", SetBook.FULL);
        Probe.due("tuple(0, 0)", p.book().tuple(0, 0), 20);
    }

    private static void fullOnTheWay() {
        Probe p = wide();
        p.set("a.kids*b.kids", 200);
        p.book().keep(0);
        p.set("head(a.all*b.kids,1)", SetBook.FULL);
        p.set("a.all*b.all*c.up", SetBook.FULL);
        p.set("c.up*a.all*b.all", 0);
        p.set("a.all*{b.all*c.up}", 0);
        p.set("{a.all*b.all}*c.up", SetBook.FULL);
        p.set("#0+a*b-a*b", SetBook.FULL);
        p.set("#0-#0+a*b", 1);
        p.set("a*b-a.all*b.all", SetBook.FULL);
        p.set("a*b&{#0+a*b}", SetBook.FULL);
        p.set("#0^a*b^a*b", SetBook.FULL);
        p.set("top(a.all*b.all,1,m)", SetBook.FULL);
    }

    private static void wrongGoesAheadOfFull() {
        Probe p = wide();
        p.set("a.all*b.all+", Probe.wrongAt(12));
        p.set("a.all*b.all+a", Probe.wrongAt(12));
        p.set("a.all*b.all*a", Probe.wrongAt(12));
        p.set("tree(a.all*b.all)", Probe.wrongAt(5));
        p.set("head(a.all*b.all,x)", Probe.wrongAt(17));
        p.set("a.all*b.all+b*a", Probe.wrongAt(12));
        p.set("a.all*b.all+a*b*c", Probe.wrongAt(12));
    }

    private static void aFunctionNamedAsAMember() {
        Probe p = new Probe();
        p.tree("dim turn\nmem kids turn\nmar m\n", 2);
        p.set("turn(", Probe.wrongAt(5));
        p.set("turn)", Probe.wrongAt(4));
        p.set("{{{{{turn(turn)}}}}}", Probe.wrongAt(5));
        p.set("{{{{{turn}}}}}", 1);
        p.set("{{{{turn(turn)}}}}", 1);
        p.set("kids(", Probe.wrongAt(4));
        p.set("kids.kids", 0);
        p.set("turn.turn", Probe.wrongAt(5));
        p.set("full(turn,m", Probe.wrongAt(11));
    }
}
