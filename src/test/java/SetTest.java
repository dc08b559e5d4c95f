/** Promise 6: set, of texts that are right. */
public final class SetTest {
    /** r has a, b and c; a has d and e; b has f; d has g. In ORDER: r a b d c e f g. */
    private static final String DEEP = "dim r\nmem a r\nmem b r\nmem d a\nmem c r\nmem e a\nmem f b\nmem g d\n"
            + "dim p\nmem x p\nmem y p\nmar m\nmar n\n";

    public static void main(String[] args) {
        acts();
        signs();
        products();
        parts();
        cuts();
        showing();
        sorted();
        walkTurnEach();
        longest();
        Probe.finish();
    }

    private static Probe deep() {
        Probe p = new Probe();
        p.tree(DEEP, 11);
        return p;
    }

    private static void acts() {
        Probe.makes(SetTest::deep,
            "r", "r", "g", "g", "p", "p",
            "r.kids", "a b c", "a.kids", "d e", "d.kids", "g", "g.kids", "",
            "r.all", "r a d g e b f c", "a.all", "a d g e", "g.all", "g", "p.all", "p x y",
            "r.ends", "g e f c", "a.ends", "g e", "c.ends", "c", "y.ends", "y",
            "r.up", "", "a.up", "r", "g.up", "d", "x.up", "p",
            "r.path", "r", "g.path", "g d a r", "c.path", "c r",
            "r.sibs", "r", "a.sibs", "a b c", "e.sibs", "d e", "g.sibs", "g", "x.sibs", "x y",
            "r.next", "", "a.next", "b", "b.next", "c", "c.next", "", "d.next", "e", "e.next", "",
            "r.back", "", "a.back", "", "b.back", "a", "c.back", "b", "e.back", "d", "f.back", "",
            "r.deep", "r", "a.deep", "a b c", "d.deep", "d e f", "f.deep", "d e f", "g.deep", "g", "p.deep", "p");
    }

    private static void signs() {
        Probe p = deep();
        p.makes("a+b", "a b");
        p.makes("b+a", "b a");
        p.makes("a+a", "a");
        p.makes("r.kids+a.all", "a b c d g e");
        p.makes("r.kids-b", "a c");
        p.makes("r.kids-r", "a b c");
        p.makes("r.kids-r.all", "");
        p.makes("r.all&r.kids", "a b c");
        p.makes("r.kids&{c+a}", "a c");
        p.makes("r.kids&g", "");
        p.makes("r.kids^{c+d+a+e}", "b d e");
        p.makes("r.kids^r.kids", "");
        p.makes("r.up^a", "a");
        p.makes("a^r.up", "a");
        p.makes("r.up+r.up", "");
        p.makes("a-a+b", "b");
        p.makes("a-{a+b}", "");
        p.makes("a+b&b", "b");
        p.makes("a+b-a+a", "b a");
        p.makes("a+b^b+c", "a c");
        p.makes("a*x+b*x&{b*p.all}", "b.x");
    }

    private static void products() {
        Probe p = deep();
        p.makes("a*x", "a.x");
        p.makes("x*a", "x.a");
        p.makes("r.kids*p.kids", "a.x a.y b.x b.y c.x c.y");
        p.makes("p.kids*r.kids", "x.a x.b x.c y.a y.b y.c");
        p.makes("r.up*p.kids", "");
        p.counts(4, 2);
        p.makes("p.kids*r.up", "");
        p.counts(4, 2);
        p.makes("a*x+a*y-a*x", "a.y");
        p.tree("dim a\nmem a1 a\ndim b\nmem b1 b\ndim c\nmem c1 c\ndim d\nmem d1 d\nmar m\n", 8);
        p.makes("d.all*b*a.all*c1", "d.b.a.c1 d.b.a1.c1 d1.b.a.c1 d1.b.a1.c1");
        p.makes("{d.all*b}*{c*a.all}", "d.b.c.a d.b.c.a1 d1.b.c.a d1.b.c.a1");
        Probe.due("tuple(2, 3)", p.book().tuple(2, 3), 1);
        Probe.due("tuple(1, 0)", p.book().tuple(1, 0), 1);
        Probe.due("tuple(1, 1)", p.book().tuple(1, 1), 0);
    }

    private static void parts() {
        Probe p = deep();
        p.makes("{a}", "a");
        p.makes("{{{{{a}}}}}", "a");
        p.makes("{a+b}-{a}", "b");
        p.makes("{a+b}*{x+y}", "a.x a.y b.x b.y");
        p.makes("{head({turn({a+b+c})},2)}", "c b");
        p.makes("turn(turn(turn(turn(turn(a+b)))))", "b a");
        p.makes("{a}+{b}+{{{{{c}}}}}", "a b c");
        p.tree("dim head\nmem tail head\nmem all head\nmem over tail\nmar full\n", 4);
        p.makes("head", "head");
        p.makes("head.all", "head tail over all");
        p.makes("head(head.all,2)", "head tail");
        p.makes("tail(head.all+head,1)-tail", "all");
        p.makes("all.all+over.up", "all tail");
        p.makes("{{{{{head}}}}}", "head");
        p.mark("over full 3", 1);
        p.makes("over(over+head,full,2)", "over");
        p.makes("full(head.all,full)", "over");
    }

    private static void cuts() {
        Probe p = deep();
        p.makes("head(r.kids,0)", "");
        p.makes("head(r.kids,1)", "a");
        p.makes("head(r.kids,3)", "a b c");
        p.makes("head(r.kids,4)", "a b c");
        p.makes("head(r.kids,999999999)", "a b c");
        p.makes("tail(r.kids,0)", "");
        p.makes("tail(r.kids,2)", "b c");
        p.makes("tail(r.kids,3)", "a b c");
        p.makes("tail(r.kids,999999999)", "a b c");
        p.makes("head(r.up,2)", "");
        p.makes("tail(r.kids*p.kids,2)", "c.x c.y");
    }

    private static Probe deepMarked() {
        Probe p = deep();
        String[] lines = {"a m 5", "b m -2", "d m 5", "c m 0", "e m -2", "x m 10", "y m -10"};
        for (int i = 0; i < lines.length; i++) {
            p.mark(lines[i], i + 1);
        }
        return p;
    }

    private static void showing() {
        Probe p = deepMarked();
        p.makes("full(r.all,m)", "a d e b c");
        p.makes("full(r.all,n)", "");
        p.makes("full(r*x+a*x,m)", "a.x");
        p.makes("over(r.all,m,0)", "a d");
        p.makes("over(r.all,m,5)", "");
        p.makes("over(r.all,m,-3)", "a d e b c");
        p.makes("over(r.all,m,-2)", "a d c");
        p.makes("over(r.all,m,-999999999)", "a d e b c");
        p.makes("over(r.all,m,999999999)", "");
        p.makes("under(r.all,m,0)", "e b");
        p.makes("under(r.all,m,-2)", "");
        p.makes("under(r.all,m,999999999)", "a d e b c");
        p.makes("under(r.all,m,-999999999)", "");
        p.makes("under(r.kids*p.kids,m,0)", "a.y b.y c.y");
        p.makes("over(r.kids*p.kids,m,8)", "a.x c.x");
    }

    private static void sorted() {
        Probe p = deepMarked();
        p.makes("rise(r.all,m)", "e b c a d r g f");
        p.makes("fall(r.all,m)", "a d c e b r g f");
        p.makes("rise(turn(r.all),m)", "b e c d a f g r");
        p.makes("rise(r.all,n)", "r a d g e b f c");
        p.makes("rise(r.up,m)", "");
        p.makes("top(r.all,2,m)", "a d");
        p.makes("top(r.all,3,m)", "a d c");
        p.makes("top(r.all,9,m)", "a d c e b");
        p.makes("top(r.all,0,m)", "");
        p.makes("top(r.all,5,n)", "");
        p.makes("low(r.all,2,m)", "e b");
        p.makes("low(r.all,999999999,m)", "e b c a d");
        p.makes("fall(r.kids*p.kids,m)", "a.x c.x b.x a.y c.y b.y");
        p.makes("rise(r.kids*p.kids,m)", "b.y c.y a.y b.x c.x a.x");
        p.makes("top(r.kids*p.kids,2,m)", "a.x c.x");
        p.makes("low(r.all*p.all,2,m)", "e.y b.y");
        p.mark("b m 1000000", 7);
        p.mark("c m -1000000", 7);
        p.makes("rise(r.kids,m)", "c a b");
        p.makes("fall(r.kids,m)", "b a c");
    }

    private static void walkTurnEach() {
        Probe p = deep();
        p.makes("tree(r.deep+g+c+f+a)", "r a g f c");
        p.makes("tree(turn(r.all))", "r a d g e b f c");
        p.makes("tree(r.up)", "");
        p.makes("tree(y+x)", "x y");
        p.makes("turn(r.kids)", "c b a");
        p.makes("turn(a+b)", "b a");
        p.makes("turn(r.up)", "");
        p.makes("turn(a*p.kids)", "a.y a.x");
        p.makes("each(r.kids,kids)", "d e f");
        p.makes("each(d+e+f,up)", "a b");
        p.makes("each(g+f,path)", "g d a r f b");
        p.makes("each(r.all,up)", "r a d b");
        p.makes("each(r.all,deep)", "r a b c d e f g");
        p.makes("each(b+a,all)", "b f a d g e");
        p.makes("each(r.kids,next)", "b c");
        p.makes("each(r.kids,back)", "a b");
        p.makes("each(c+a,sibs)", "a b c");
        p.makes("each(a+d,ends)", "g e");
        p.makes("each(r.up,all)", "");
        p.counts(4, 1);
        p.makes("each(p,kids)", "x y");
    }

    private static void longest() {
        Probe p = deep();
        StringBuilder text = new StringBuilder("a");
        while (text.length() < 1999) {
            text.append("^b");
        }
        p.makes(text.toString(), "a b");
        Probe.due("length", text.length(), 1999);
    }
}
