/** Part III, SET, ITEM and PART, and promise 6 (set): for each sentence the cases at its edge. */
public final class SetEdgesTest {
    private static final Probe.Text SET = Probe.Text.SET;
    /** r has a, b and c; a has d and e; b has f; d has g. In ORDER: r a b d c e f g. */
    private static final String DEEP = "dim r\nmem a r\nmem b r\nmem d a\nmem c r\nmem e a\nmem f b\nmem g d\n"
            + "dim p\nmem x p\nmem y p\nmar m\nmar n\n";
    private static final String FOUR_ROOTS = "dim a\nmem a1 a\ndim b\nmem b1 b\ndim c\nmem c1 c\ndim d\nmem d1 d\nmar m\n";
    /** The FUNCTIONS, and what stands behind the SET of each. */
    private static final String[] FUNCTIONS = {"head", ",1", "tail", ",1", "full", ",m", "over", ",m,-9", "under", ",m,9",
        "rise", ",m", "fall", ",m", "top", ",1,m", "low", ",1,m", "tree", "", "turn", "", "each", ",all"};

    public static void main(String[] args) {
        plus();
        minus();
        and();
        either();
        fromTheLeft();
        products();
        twoAtATime();
        memberAndAct();
        keptDigits();
        noneKept();
        braces();
        things();
        functionNames();
        functionsNamedAsMembers();
        noBlanks();
        fiveWithinOneAnother();
        oneTooManyWithin();
        partsOfDifferentDimensions();
        itemsOfTheSameDimensions();
        whatIsWithinGoesAhead();
        setAnswers();
        setIsWrong();
        Probe.finish();
    }

    static Probe deep() {
        Probe p = new Probe();
        p.tree(DEEP, 11);
        return p;
    }

    private static Probe fourRoots() {
        Probe p = new Probe();
        p.tree(FOUR_ROOTS, 8);
        return p;
    }

    private static void makes(String... rows) {
        Probe.makes(SetEdgesTest::deep, rows);
    }

    private static void wrongs(String... rows) {
        Probe.wrongs(SetEdgesTest::deep, SET, rows);
    }

    private static void plus() {
        Probe.sentence("+ (those of the first, then those of the second that the first has not)");
        makes("a+b", "a b", "b+a", "b a", "a+a", "a", "r.kids+r.kids", "a b c", "r.kids+{d+b+e+a}", "a b c d e",
                "r.up+r.up", "", "r.up+a", "a", "a+r.up", "a", "a*x+a*x", "a.x", "a*x+a*y", "a.x a.y");
    }

    private static void minus() {
        Probe.sentence("- (those of the first that the second has not)");
        makes("a-b", "a", "a-a", "", "r.kids-b", "a c", "r.kids-{c+a}", "b", "r.kids-r.all", "", "r.up-a", "",
                "a-r.up", "a", "r.up-r.up", "", "r.kids*x-b*x", "a.x c.x", "a*p.kids-a*x", "a.y");
    }

    private static void and() {
        Probe.sentence("& (those of the first that the second has)");
        makes("a&a", "a", "a&b", "", "r.kids&{c+a}", "a c", "{c+a}&r.kids", "c a", "r.all&r.kids", "a b c",
                "r.up&a", "", "a&r.up", "", "r.up&r.up", "", "a*p.kids&{a*y+b*x}", "a.y");
    }

    private static void either() {
        Probe.sentence("^ (those of the first that the second has not, then those of the second that the first has not)");
        makes("a^b", "a b", "b^a", "b a", "a^a", "", "r.kids^{c+d+a+e}", "b d e", "r.kids^r.kids", "",
                "r.up^a", "a", "a^r.up", "a", "r.up^r.up", "", "a*p.kids^{a*y+b*x}", "a.x b.x");
    }

    private static void fromTheLeft() {
        Probe.sentence("between, from the left to the right");
        makes("a-a+a", "a", "a-{a+a}", "", "a+b&b", "b", "a+{b&b}", "a b", "a+b-a+a", "b a", "a^a^a", "a",
                "a+b^b+c", "a c", "a&b+c", "c", "a+b-b-a", "");
    }

    private static void products() {
        Probe.sentence("each TUPLE of the first with each of the second behind it, .., the last PART's the fastest");
        makes("a*x", "a.x", "x*a", "x.a", "r.kids*p.kids", "a.x a.y b.x b.y c.x c.y",
                "p.kids*r.kids", "x.a x.b x.c y.a y.b y.c", "r.up*p.kids", "", "p.kids*r.up", "", "r.up*p.up", "");
        Probe.makes(SetEdgesTest::fourRoots, "d.all*b*a.all*c1", "d.b.a.c1 d.b.a1.c1 d1.b.a.c1 d1.b.a1.c1",
                "a*b*c*d", "a.b.c.d", "d*c*b*a", "d.c.b.a", "{b*d}*{c*a.all}", "b.d.c.a b.d.c.a1",
                "a.all*b.all*c1", "a.b.c1 a.b1.c1 a1.b.c1 a1.b1.c1", "a.kids*b.kids*c.kids*d1.kids", "");
        Probe p = deep();
        p.makes("r.up*p.kids", "");
        p.counts(4, 2);
    }

    private static void twoAtATime() {
        Probe.sentence("(of more than two, two at a time, from the left)");
        Probe p = new Probe();
        p.tree(Probe.wide("a", 28) + Probe.wide("b", 6) + Probe.wide("c", 1) + "mar m\n", 38);
        p.set("a.all*b.all*c.up", SetBook.FULL);
        p.set("a.all*c.up*b.all", 0);
        p.set("c.up*a.all*b.all", 0);
        p.set("a.all*{b.all*c.up}", 0);
        p.set("c.up*{a.all*b.all}", SetBook.FULL);
    }

    private static void memberAndAct() {
        Probe.sentence("PART: a NAME of a MEMBER, perhaps . and an ACT");
        makes("a", "a", "g", "g", "a.all", "a d g e", "y.up", "p");
        wrongs("a.", "2", "a..all", "2", "a.All", "2", "a.al", "2", "a.alls", "2", "a.all.all", "5", "a.all(", "5",
                "a,all", "1", "a(all)", "1", ".all", "0", "q.all", "0", "m.all", "0");
    }

    private static void keptDigits() {
        Probe.sentence("# and a digit 0 .. 5, the SET that is KEPT there");
        Probe p = deep();
        String[] names = {"a", "b", "c", "d", "e", "f"};
        for (int k = 0; k < 6; k++) {
            p.set(names[k], 1);
            Probe.due("keep(" + k + ")", p.book().keep(k), 1);
        }
        for (int k = 0; k < 6; k++) {
            p.makes("#" + k, names[k]);
        }
        p.makes("#5+#0-#1", "f a");
        String[] wrong = {"#6", "#7", "#8", "#9", "#/", "#:", "#a", "##", "#-1", "# 0", "#"};
        for (String text : wrong) {
            p.set(text, Probe.wrongAt(1));
        }
        p.set("#00", Probe.wrongAt(2));
        p.set("#0.all", Probe.wrongAt(2));
        p.set("#05", Probe.wrongAt(2));
        p.set("a+#6", Probe.wrongAt(3));
    }

    private static void noneKept() {
        Probe.sentence("(if none is: WRONG at the #)");
        wrongs("#0", "0", "#1", "0", "#5", "0", "a+#2", "2", "x*#3", "2", "{#4}", "1", "turn(#0)", "5", "#0?", "0");
        Probe p = deep();
        p.set("r.up", 0);
        Probe.due("keep(2)", p.book().keep(2), 0);
        p.makes("#2", "");
        p.makes("#2+a", "a");
        p.set("#1", Probe.wrongAt(0));
        p.set("#3", Probe.wrongAt(0));
        Probe.due("drop(2)", p.book().drop(2), 0);
        p.set("#2", Probe.wrongAt(0));
    }

    private static void braces() {
        Probe.sentence("{ SET }");
        makes("{a}", "a", "{a+b}", "a b", "{a}+{b}", "a b", "{r.up}", "", "{a*x}", "a.x", "{a+b}*{x+y}", "a.x a.y b.x b.y",
                "c+{a+b-a}", "c b");
        wrongs("{}", "1", "{", "1", "{a", "2", "{a)", "2", "{a}}", "3", "{a}.all", "3", "{a}(", "3", "{+a}", "1", "{a+}", "3",
                "}", "0", "{a}b", "3", "{a}{b}", "3");
    }

    private static void things() {
        Probe.sentence("a FUNCTION, (, its things with , between, )");
        for (int i = 0; i < FUNCTIONS.length; i += 2) {
            String open = FUNCTIONS[i] + "(";
            String whole = open + "a" + FUNCTIONS[i + 1];
            Probe p = deep();
            p.mark("a m 1", 1);
            p.set(whole + ")", FUNCTIONS[i].equals("each") ? 4 : 1);
            p.set(whole, Probe.wrongAt(whole.length()));
            p.set(whole + "}", Probe.wrongAt(whole.length()));
            p.set(whole + ",", Probe.wrongAt(whole.length()));
            p.set(whole + ",1)", Probe.wrongAt(whole.length()));
            p.set(whole + "))", Probe.wrongAt(whole.length() + 1));
            p.set(open + ")", Probe.wrongAt(open.length()));
            p.set(open + FUNCTIONS[i + 1] + ")", Probe.wrongAt(open.length()));
            p.set(open + "q", Probe.wrongAt(open.length()));
            if (!FUNCTIONS[i + 1].isEmpty()) {
                p.set(open + "a)", Probe.wrongAt(open.length() + 1));
                p.set(open + "a,)", Probe.wrongAt(open.length() + 2));
                p.set(open + "a,", Probe.wrongAt(open.length() + 2));
                p.set(open + "a;", Probe.wrongAt(open.length() + 1));
            }
        }
        wrongs("over(a,m)", "8", "under(a,m)", "9", "top(a,1)", "7", "low(a,1)", "7", "top(a,m,1)", "6", "low(a,m,1)", "6",
                "over(a,1,m)", "7", "under(a,1,m)", "8", "full(a,1)", "7", "rise(a,1)", "7", "fall(a,1)", "7", "head(a,m)", "7",
                "tail(a,m)", "7", "each(a,1)", "7", "head(1,a)", "5", "tree()", "5", "turn()", "5");
    }

    private static void functionNames() {
        Probe.sentence("(a FUNCTION's name .. that is no MEMBER's, is one: without ( it is WRONG behind it)");
        for (int i = 0; i < FUNCTIONS.length; i += 2) {
            String name = FUNCTIONS[i];
            String behind = "" + name.length();
            wrongs(name, behind, name + ".all", behind, name + "+a", behind, name + "{a}", behind, name + " (a)", behind,
                    name + ")", behind, name + "1", "0", name.substring(1) + "(a)", "0", "b" + name, "0");
            wrongs("a+" + name, "" + (name.length() + 2), "{" + name, "" + (name.length() + 1));
        }
    }

    private static void functionsNamedAsMembers() {
        Probe.sentence("a FUNCTION's name with ( behind it .. is one");
        for (int i = 0; i < FUNCTIONS.length; i += 2) {
            String name = FUNCTIONS[i];
            Probe p = new Probe();
            p.tree("dim t\nmem " + name + " t\nmem b " + name + "\nmar m\n", 3);
            p.mark(name + " m 1", 1);
            p.makes(name, name);
            p.makes(name + ".up", "t");
            p.makes(name + ".all", name + " b");
            p.makes("t+" + name, "t " + name);
            p.makes(name + "(" + name + FUNCTIONS[i + 1] + ")", name.equals("each") ? "each b" : name);
            p.set(name + "(", Probe.wrongAt(name.length() + 1));
            p.set(name + ")", Probe.wrongAt(name.length()));
            p.set("b(", Probe.wrongAt(1));
        }
    }

    private static void noBlanks() {
        Probe.sentence("No blanks.");
        wrongs(" a", "0", "a ", "1", "a +b", "1", "a+ b", "2", "a *x", "1", "a* x", "2", "a .all", "1", "a. all", "2",
                "a.all ", "5", "{ a}", "1", "{a }", "2", "{a} ", "3", "head (a,1)", "4", "head( a,1)", "5", "head(a ,1)", "6",
                "head(a, 1)", "7", "head(a,1 )", "8", "head(a,1) ", "9", "over(a,m, -1)", "9", "over(a,m,- 1)", "10",
                "full(a, m)", "7", "each(a, all)", "7", "each(a,all )", "10", " ", "0");
        Probe p = deep();
        p.set("a", 1);
        p.book().keep(0);
        p.set("# 0", Probe.wrongAt(1));
        p.set("#0 ", Probe.wrongAt(2));
        p.set(" #0", Probe.wrongAt(0));
    }

    private static void fiveWithinOneAnother() {
        Probe.sentence("{ and FUNCTIONS at most 5 within one another");
        makes("{{{{{a}}}}}", "a", "turn(turn(turn(turn(turn(a+b)))))", "b a", "{turn({turn({a+b})})}", "a b",
                "{a}+{b}+{{{{{c}}}}}", "a b c", "{{{{{a}+{b}}}}}-{{{{{a}}}}}", "b",
                "turn(a)+turn(turn(turn(turn(turn(b)))))", "a b", "head(head({head(head(a,1),1)},1),1)", "a",
                "{{{{{a}}}}}*{{{{{x}}}}}", "a.x", "{{{{{a}*{x}}}}}", "a.x");
    }

    private static void oneTooManyWithin() {
        Probe.sentence("(the { or first letter that is one too many is WRONG)");
        wrongs("{{{{{{a}}}}}}", "5", "{{{{{{", "5", "turn(turn(turn(turn(turn(turn(a))))))", "25",
                "turn(turn(turn(turn(turn({a})))))", "25", "{{{{{turn(a)}}}}}", "5", "{{{{{turn", "5", "{{{{{a+{b}}}}}}", "7",
                "{{{{{a+turn(b)}}}}}", "7", "{{{{turn({a})}}}}", "9", "{{{{{{a}*{x}}}}}}", "5", "{{{{{{q", "5",
                "{{{{{a*x+turn(", "9", "{a}+{{{{{{b}}}}}}", "9");
        Probe p = new Probe();
        p.tree("dim turn\nmar m\n", 1);
        p.makes("{{{{{turn}}}}}", "turn");
        p.set("{{{{{turn(turn)}}}}}", Probe.wrongAt(5));
    }

    private static void partsOfDifferentDimensions() {
        Probe.sentence("The DIMENSIONS of an ITEM's PARTS are different (else WRONG at the first byte of the PART "
                + "that has one again)");
        wrongs("a*b", "2", "a*a", "2", "a*r.up", "2", "r.up*a", "5", "a*x*b", "4", "a*x*y", "4", "x*a*{y}", "4",
                "{a*x}*y", "6", "a*{x*b}", "2", "a*{b*x}", "2", "a*turn(b)", "2", "b+a*b", "4", "{a*b}", "3",
                "head(a*b,1)", "7", "a*b+x", "2", "a*b*q", "2");
        Probe.wrongs(Probe::busy, SET, "a*#0", "2", "#0*a", "3", "#3*x", "3", "#0*#3", "3");
        Probe.makes(SetEdgesTest::fourRoots, "a*b*c*d", "a.b.c.d", "{a*b}*{c*d}", "a.b.c.d");
        Probe.wrongs(SetEdgesTest::fourRoots, SET, "a*b*c*d*a", "8", "a*b*c*d*d1", "8", "{a*b}*{d*c}*b", "12",
                "{a*b}*{c*a}", "6");
    }

    private static void itemsOfTheSameDimensions() {
        Probe.sentence("those of a SET's ITEMS are the same, in the same order (else WRONG at that ITEM's first byte");
        wrongs("a+x", "2", "a-x", "2", "a&x", "2", "a^x", "2", "a+p.up", "2", "r.up+x", "5", "a*x+a", "4", "a+a*x", "2",
                "a*x+x*a", "4", "a*x-x*a", "4", "a*x+b*y+y*b", "8", "a+b+x", "4", "a+x+q", "2", "{a+x}", "3",
                "head(a+x,1)", "7", "{a*x}+{x*a}", "6", "a*x+{a}", "4");
        Probe.wrongs(Probe::busy, SET, "#0+x", "3", "x+#0", "2", "#3+#0", "3", "#3&x*a", "3");
        Probe.wrongs(SetEdgesTest::fourRoots, SET, "a*b*c+a*b*d", "6", "a*b*c+a*c*b", "6", "a*b*c+a*b", "6",
                "a*b*c*d+a*b*d*c", "8");
        makes("a*x+b*y", "a.x b.y", "x*a+y*b", "x.a y.b", "{a*x}+b*y", "a.x b.y");
    }

    private static void whatIsWithinGoesAhead() {
        Probe.sentence("each looked at when it was read to its end: what is wrong within it goes ahead)");
        wrongs("a*b.foo", "4", "a*b.", "4", "a*b?", "2", "a*b.all?", "2", "a*{b", "4", "a*{b?", "4", "a*turn(b", "8",
                "a*head(b,x)", "9", "a*{b+x}", "5", "a+x.foo", "4", "a+x*", "4", "a+x*q", "4", "a+x*y", "4", "a+x?", "2",
                "a+x*a?", "2", "a+{x", "4", "a+{x+b}", "5", "a+turn(x", "8", "a+x+", "2", "a*x+x*a*b", "8",
                "a+head(x,q)", "9", "a*#0", "2", "a+#0", "2");
    }

    private static void setAnswers() {
        Probe.sentence("Promise 6: it is THE SET: how many TUPLES it has.");
        Probe p = deep();
        p.set("r.all", 8);
        p.counts(3, 8);
        p.counts(4, 1);
        p.set("r.all*p.all", 24);
        p.counts(3, 24);
        p.counts(4, 2);
        p.set("r.up", 0);
        p.counts(3, 0);
        p.counts(4, 1);
        p.set("x", 1);
        Probe.due("tuple(0, 0)", p.book().tuple(0, 0), SetBook.NONE);
        Probe.due("tuple(0, 1)", p.book().tuple(0, 1), 1);
    }

    private static void setIsWrong() {
        Probe.sentence("Promise 6: WRONG; .. and THE SET stays.");
        Probe.wrongs(Probe::busy, SET, "", "0", "a+", "2", "a*b", "2", "a+x", "2", "#1", "0", "#3+a", "3", "b?", "1");
        Probe p = Probe.busy();
        p.set("b+c?", Probe.wrongAt(3));
        Probe.due("THE SET", p.tuples(), "a.x a.y b.x b.y");
    }
}
