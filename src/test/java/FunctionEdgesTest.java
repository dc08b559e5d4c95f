/** Part III, what a TUPLE shows, ACTS and FUNCTIONS: for each sentence the cases at its edge. */
public final class FunctionEdgesTest {
    private static final Probe.Text SET = Probe.Text.SET;

    public static void main(String[] args) {
        showsTheSum();
        kids();
        all();
        ends();
        up();
        path();
        sibs();
        nextAndBack();
        deep();
        head();
        tail();
        full();
        over();
        under();
        rise();
        fall();
        equalOnesStay();
        twoHundredThatShow();
        top();
        low();
        tree();
        treeOfOneDimension();
        turn();
        each();
        eachOfOneDimension();
        Probe.finish();
    }

    /** The trees of SetEdgesTest: r has a, b, c; a has d, e; b has f; d has g; p has x, y. */
    private static Probe bare() {
        return SetEdgesTest.deep();
    }

    /** At m: a 5, d 5, b -2, e -2, c 0, x 10, y -10; the others none. At n none at all. */
    private static Probe marked() {
        Probe p = bare();
        String[] lines = {"a m 5", "b m -2", "d m 5", "c m 0", "e m -2", "x m 10", "y m -10"};
        for (int i = 0; i < lines.length; i++) {
            p.mark(lines[i], i + 1);
        }
        return p;
    }

    private static void makes(String... rows) {
        Probe.makes(FunctionEdgesTest::marked, rows);
    }

    private static void wrongs(String... rows) {
        Probe.wrongs(FunctionEdgesTest::bare, SET, rows);
    }

    private static void showsTheSum() {
        Probe.sentence("At a MARK it shows the sum of what its MEMBERS have there, none if one has none.");
        Probe p = new Probe();
        p.tree("dim a\ndim b\ndim c\ndim d\nmar m\nmar n\n", 4);
        String[] names = {"a", "b", "c", "d"};
        for (int i = 0; i < 4; i++) {
            p.mark(names[i] + " m 1000000", i + 1);
        }
        p.set("a*b*c*d", 1);
        Probe.due("shows(0, 0)", p.book().shows(0, 0), 4000000);
        Probe.due("shows(0, 1)", p.book().shows(0, 1), SetBook.NOTHING);
        for (int i = 0; i < 4; i++) {
            p.mark(names[i] + " m -1000000", 4);
        }
        Probe.due("shows(0, 0)", p.book().shows(0, 0), -4000000);
        p.makes("over(a*b*c*d,m,-4000001)", "a.b.c.d");
        p.makes("under(a*b*c*d,m,-3999999)", "a.b.c.d");
        for (int i = 0; i < 4; i++) {
            p.mark(names[i] + " m -", 3);
            Probe.due("shows(0, 0) without " + names[i], p.book().shows(0, 0), SetBook.NOTHING);
            p.mark(names[i] + " m 0", 4);
        }
        Probe.due("shows(0, 0)", p.book().shows(0, 0), 0);
        p.set("c", 1);
        p.mark("c m 7", 4);
        Probe.due("shows(0, 0)", p.book().shows(0, 0), 7);
    }

    private static void kids() {
        Probe.sentence("kids (those right under it, in ORDER)");
        makes("r.kids", "a b c", "a.kids", "d e", "d.kids", "g", "g.kids", "", "c.kids", "", "p.kids", "x y", "y.kids", "");
    }

    private static void all() {
        Probe.sentence("all (itself, then for each of kids all)");
        makes("r.all", "r a d g e b f c", "a.all", "a d g e", "g.all", "g", "c.all", "c", "p.all", "p x y", "y.all", "y");
    }

    private static void ends() {
        Probe.sentence("ends (the LEAVES of all)");
        makes("r.ends", "g e f c", "a.ends", "g e", "d.ends", "g", "g.ends", "g", "c.ends", "c", "p.ends", "x y");
    }

    private static void up() {
        Probe.sentence("up (its parent; none of the ROOT)");
        makes("r.up", "", "p.up", "", "a.up", "r", "g.up", "d", "y.up", "p");
    }

    private static void path() {
        Probe.sentence("path (itself, up, and so on)");
        makes("r.path", "r", "p.path", "p", "a.path", "a r", "g.path", "g d a r", "y.path", "y p");
    }

    private static void sibs() {
        Probe.sentence("sibs (the kids of its parent; the ROOT alone)");
        makes("r.sibs", "r", "p.sibs", "p", "a.sibs", "a b c", "c.sibs", "a b c", "g.sibs", "g", "e.sibs", "d e",
                "f.sibs", "f", "x.sibs", "x y");
    }

    private static void nextAndBack() {
        Probe.sentence("next, back (of sibs the one behind, before; none at the end)");
        makes("a.next", "b", "b.next", "c", "c.next", "", "r.next", "", "p.next", "", "g.next", "", "d.next", "e",
                "e.next", "", "x.next", "y", "y.next", "");
        makes("a.back", "", "b.back", "a", "c.back", "b", "r.back", "", "p.back", "", "g.back", "", "d.back", "",
                "e.back", "d", "f.back", "", "y.back", "x");
    }

    private static void deep() {
        Probe.sentence("deep (those of its DIMENSION that lie as far below the ROOT, in ORDER)");
        makes("r.deep", "r", "p.deep", "p", "a.deep", "a b c", "c.deep", "a b c", "f.deep", "d e f", "d.deep", "d e f",
                "g.deep", "g", "y.deep", "x y");
    }

    private static void head() {
        Probe.sentence("head(SET,NUMBER) .. the first .. so many (all, if there are not more)");
        makes("head(r.kids,0)", "", "head(r.kids,1)", "a", "head(r.kids,2)", "a b", "head(r.kids,3)", "a b c",
                "head(r.kids,4)", "a b c", "head(r.kids,999999999)", "a b c", "head(r.up,0)", "", "head(r.up,1)", "");
    }

    private static void tail() {
        Probe.sentence("tail(SET,NUMBER): the .. last so many (all, if there are not more)");
        makes("tail(r.kids,0)", "", "tail(r.kids,1)", "c", "tail(r.kids,2)", "b c", "tail(r.kids,3)", "a b c",
                "tail(r.kids,4)", "a b c", "tail(r.kids,999999999)", "a b c", "tail(r.up,0)", "", "tail(r.up,1)", "");
    }

    private static void full() {
        Probe.sentence("full(SET,M) .. those that show at M (the NAME of a MARK) something that is not none");
        makes("full(r.all,m)", "a d e b c", "full(r.all,n)", "", "full(c,m)", "c", "full(g,m)", "", "full(r.up,m)", "",
                "full(r.kids*p.all,m)", "a.x a.y b.x b.y c.x c.y", "full(g*x,m)", "", "full(x*g,m)", "");
        wrongs("full(a,o)", "7", "full(a,a)", "7", "full(a,mm)", "7", "full(a,M)", "7", "full(a,)", "7", "full(a,0)", "7");
    }

    private static void over() {
        Probe.sentence("over(SET,M,INT) .. above .. the INT");
        makes("over(r.all,m,4)", "a d", "over(r.all,m,5)", "", "over(r.all,m,0)", "a d", "over(r.all,m,-1)", "a d c",
                "over(r.all,m,-2)", "a d c", "over(r.all,m,-3)", "a d e b c", "over(r.all,m,-999999999)", "a d e b c",
                "over(r.all,m,999999999)", "", "over(g,m,-999999999)", "", "over(r.all,n,-999999999)", "",
                "over(r.up,m,-1)", "", "over(r.kids*p.kids,m,10)", "a.x", "over(r.kids*p.kids,m,9)", "a.x c.x");
    }

    private static void under() {
        Probe.sentence("under(SET,M,INT) .. below the INT");
        makes("under(r.all,m,-1)", "e b", "under(r.all,m,-2)", "", "under(r.all,m,0)", "e b", "under(r.all,m,1)", "e b c",
                "under(r.all,m,5)", "e b c", "under(r.all,m,6)", "a d e b c", "under(r.all,m,999999999)", "a d e b c",
                "under(r.all,m,-999999999)", "", "under(g,m,999999999)", "", "under(r.all,n,999999999)", "",
                "under(r.up,m,1)", "", "under(r.kids*p.kids,m,-10)", "b.y", "under(r.kids*p.kids,m,-9)", "b.y c.y");
    }

    private static void rise() {
        Probe.sentence("rise(SET,M) .. by what they show, the least .. first");
        makes("rise(r.kids,m)", "b c a", "rise(a+b,m)", "b a", "rise(b+a,m)", "b a", "rise(a,m)", "a", "rise(r.up,m)", "",
                "rise(r.kids*p.kids,m)", "b.y c.y a.y b.x c.x a.x");
        Probe p = marked();
        p.mark("b m 1000000", 7);
        p.mark("c m -1000000", 7);
        p.makes("rise(r.kids,m)", "c a b");
        p.makes("fall(r.kids,m)", "b a c");
    }

    private static void fall() {
        Probe.sentence("fall(SET,M): by what they show, the .. greatest first");
        makes("fall(r.kids,m)", "a c b", "fall(b+a,m)", "a b", "fall(a+b,m)", "a b", "fall(a,m)", "a", "fall(r.up,m)", "",
                "fall(r.kids*p.kids,m)", "a.x c.x b.x a.y c.y b.y");
    }

    private static void equalOnesStay() {
        Probe.sentence("equal ones, and then all that show none, as they were");
        makes("rise(r.all,m)", "e b c a d r g f", "rise(turn(r.all),m)", "b e c d a f g r",
                "fall(r.all,m)", "a d c e b r g f", "fall(turn(r.all),m)", "d a c b e f g r",
                "rise(r.all,n)", "r a d g e b f c", "fall(r.all,n)", "r a d g e b f c",
                "rise(g+d+a,m)", "d a g", "fall(g+a+d,m)", "a d g", "rise(g+r+f,m)", "g r f", "fall(f+r+g,m)", "f r g");
        Probe p = new Probe();
        p.tree(Probe.wide("a", 20) + Probe.wide("b", 10) + "mar m\n", 32);
        p.mark("a7 m 1", 1);
        p.mark("b3 m 1", 2);
        p.set("rise(a.kids*b.kids,m)", 200);
        Probe.due("the one that shows something", p.book().tuple(0, 0) * 100 + p.book().tuple(0, 1), 804);
        for (int i = 1; i < 200; i++) {
            int place = i <= 73 ? i - 1 : i;
            Probe.due("tuple(" + i + ", 0)", p.book().tuple(i, 0), place / 10 + 1);
            Probe.due("tuple(" + i + ", 1)", p.book().tuple(i, 1), place % 10 + 1);
        }
    }

    /** Of 200 TUPLES each shows another number, from 0 to 199; the first shows 199. */
    private static Probe twoHundred() {
        Probe p = new Probe();
        p.tree(Probe.wide("a", 20) + Probe.wide("b", 10) + "mar m\n", 32);
        for (int i = 0; i < 20; i++) {
            p.mark("a" + i + " m " + (190 - 10 * i), i + 1);
        }
        for (int i = 0; i < 10; i++) {
            p.mark("b" + i + " m " + (9 - i), i + 21);
        }
        return p;
    }

    private static void twoHundredThatShow() {
        Probe.sentence("rise, fall, top, low, full, over, under: as many TUPLES as a SET may have, all of which show something");
        Probe p = twoHundred();
        p.set("rise(a.kids*b.kids,m)", 200);
        for (int i = 0; i < 200; i++) {
            Probe.due("shows(" + i + ", 0)", p.book().shows(i, 0), i);
        }
        p = twoHundred();
        p.set("fall(turn(a.kids*b.kids),m)", 200);
        for (int i = 0; i < 200; i++) {
            Probe.due("shows(" + i + ", 0)", p.book().shows(i, 0), 199 - i);
        }
        String[] whole = {"top(a.kids*b.kids,200,m)", "low(a.kids*b.kids,200,m)", "top(a.kids*b.kids,201,m)",
            "full(a.kids*b.kids,m)", "over(a.kids*b.kids,m,-1)", "under(a.kids*b.kids,m,200)", "head(a.kids*b.kids,200)",
            "tail(a.kids*b.kids,200)", "head(a.kids*b.kids,201)", "tail(a.kids*b.kids,201)"};
        Probe all = twoHundred();
        for (String text : whole) {
            all.set(text, 200);
            int first = text.startsWith("low") ? 0 : 199;
            Probe.due("shows(0, 0) of " + text, all.book().shows(0, 0), first);
            Probe.due("shows(199, 0) of " + text, all.book().shows(199, 0), 199 - first);
        }
        String[] butOne = {"top(a.kids*b.kids,199,m)", "low(a.kids*b.kids,199,m)", "over(a.kids*b.kids,m,0)",
            "under(a.kids*b.kids,m,199)", "head(a.kids*b.kids,199)", "tail(a.kids*b.kids,199)"};
        int[] first = {199, 0, 199, 198, 199, 198};
        int[] last = {1, 198, 1, 0, 1, 0};
        for (int i = 0; i < butOne.length; i++) {
            all.set(butOne[i], 199);
            Probe.due("shows(0, 0) of " + butOne[i], all.book().shows(0, 0), first[i]);
            Probe.due("shows(198, 0) of " + butOne[i], all.book().shows(198, 0), last[i]);
        }
    }

    private static void top() {
        Probe.sentence("top(SET,NUMBER,M) .. the first so many of fall .. that show something");
        makes("top(r.all,0,m)", "", "top(r.all,1,m)", "a", "top(r.all,2,m)", "a d", "top(r.all,4,m)", "a d c e",
                "top(r.all,5,m)", "a d c e b", "top(r.all,6,m)", "a d c e b", "top(r.all,999999999,m)", "a d c e b",
                "top(r.all,3,n)", "", "top(g,1,m)", "", "top(r.up,1,m)", "", "top(r.kids*p.kids,2,m)", "a.x c.x");
    }

    private static void low() {
        Probe.sentence("low(SET,NUMBER,M): the first so many of .. rise that show something");
        makes("low(r.all,0,m)", "", "low(r.all,1,m)", "e", "low(r.all,2,m)", "e b", "low(r.all,4,m)", "e b c a",
                "low(r.all,5,m)", "e b c a d", "low(r.all,6,m)", "e b c a d", "low(r.all,999999999,m)", "e b c a d",
                "low(r.all,3,n)", "", "low(g,1,m)", "", "low(r.up,1,m)", "", "low(r.kids*p.kids,2,m)", "b.y c.y");
    }

    private static void tree() {
        Probe.sentence("tree(SET), of one DIMENSION ..: by all of its ROOT");
        makes("tree(r.up)", "", "tree(g)", "g", "tree(turn(r.all))", "r a d g e b f c", "tree(c+f+g+a)", "a g f c",
                "tree(y+p+x)", "p x y", "tree(f+c+r)", "r f c");
    }

    private static void treeOfOneDimension() {
        Probe.sentence("tree(SET), of one DIMENSION (else WRONG at the SET's first byte)");
        wrongs("tree(a*x)", "5", "tree({a*x})", "5", "tree(r.up*x)", "5", "tree(a*x+b*y)", "5", "{tree(a*x)}", "6",
                "a+tree(a*x)", "7", "turn(tree(x*a))", "10", "tree(a*x", "5", "tree(a*x?", "5", "tree(a*b)", "7",
                "tree(a+x)", "7", "tree(a*x+q)", "9", "tree(a*q)", "7");
    }

    private static void turn() {
        Probe.sentence("turn(SET): the last first");
        makes("turn(r.up)", "", "turn(a)", "a", "turn(a+b)", "b a", "turn(r.kids)", "c b a", "turn(turn(r.kids))", "a b c",
                "turn(r.kids*p.kids)", "c.y c.x b.y b.x a.y a.x");
    }

    private static void each() {
        Probe.sentence("of each TUPLE's MEMBER the ACT, one behind the other, each MEMBER once, as it comes first");
        makes("each(r.kids,kids)", "d e f", "each(b+a,kids)", "f d e", "each(d+e+f,up)", "a b", "each(g+f,path)", "g d a r f b",
                "each(f+g,path)", "f b r g d a", "each(r.all,deep)", "r a b c d e f g", "each(a+d,ends)", "g e",
                "each(c+a,sibs)", "a b c", "each(r.kids,next)", "b c", "each(r.kids,back)", "a b", "each(d+a,all)", "d g a e",
                "each(r.up,all)", "", "each(r,up)", "", "each(g+c,kids)", "", "each(y,up)", "p", "each(r.all,all)", "r a d g e b f c");
        Probe p = new Probe();
        p.tree(Probe.wide("a", 29) + "mar m\n", 30);
        p.set("each(a.kids,sibs)", 29);
        p.set("each(a.all,all)", 30);
        p.set("each(a.all,path)", 30);
        p.set("each(turn(a.kids),sibs)", 29);
        Probe.due("tuple(0, 0)", p.book().tuple(0, 0), 1);
        Probe.due("tuple(28, 0)", p.book().tuple(28, 0), 29);
    }

    private static void eachOfOneDimension() {
        Probe.sentence("each(SET,ACT), of one DIMENSION (else likewise; ACT one of the words)");
        wrongs("each(a*x,kids)", "5", "each({a*x},kids)", "5", "each(r.up*x,up)", "5", "each(x*a,all)", "5",
                "each(a*x,foo)", "5", "each(a*x", "5", "each(a*b,all)", "7", "each(a+x,all)", "7", "each(a,foo)", "7",
                "each(a,tree)", "7", "each(a,a)", "7", "each(a,)", "7", "each(a,all,all)", "10", "each(a,.all)", "7");
        String[] acts = {"kids", "all", "ends", "up", "path", "sibs", "next", "back", "deep"};
        for (String act : acts) {
            Probe p = bare();
            p.set("a." + act, act.equals("back") ? 0 : act.equals("up") || act.equals("next") ? 1
                    : act.equals("all") ? 4 : act.equals("sibs") || act.equals("deep") ? 3 : 2);
            String one = p.tuples();
            p.set("each(a," + act + ")", p.book().count(3));
            Probe.due("each(a," + act + ")", p.tuples(), one);
        }
    }
}
