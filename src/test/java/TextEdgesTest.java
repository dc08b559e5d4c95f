import java.util.function.Supplier;

/** Part I, TEXTS: for each of its sentences the cases at its edge. */
public final class TextEdgesTest {
    private static final Probe.Text TREE = Probe.Text.TREE;
    private static final Probe.Text MARK = Probe.Text.MARK;
    private static final Probe.Text SET = Probe.Text.SET;
    private static final Probe.Text PLACE = Probe.Text.PLACE;
    private static final int BYTES = 256;

    public static void main(String[] args) {
        tapeIsFull();
        nameBegins();
        nameGoesOn();
        nameHasOneToEight();
        numberHasOneToNine();
        numberHasNoZeroAhead();
        intHasAMinus();
        tooShort();
        firstByteThatCannotGoOn();
        nameThatCannotStand();
        wordThatIsNone();
        outOfRange();
        longerThanNineDigits();
        lineTooMany();
        nameIsAllThatStands();
        lookedAtAsItStands();
        nameOfMoreThanEight();
        wordOfMoreThanEight();
        tapeIsEmptyBehind();
        wrongChangesNothing();
        Probe.finish();
    }

    /** The tree of a new object with THE SET t, so that place reads a NAME. */
    private static Probe withT() {
        Probe p = new Probe();
        p.set("t", 1);
        return p;
    }

    private static void tapeIsFull() {
        Probe.sentence("THE TAPE has bytes, at most 2,000.");
        Probe p = new Probe();
        for (int n = 1; n <= 100; n++) {
            Probe.due("feed " + n, p.book().feed(0, 0, 0, 0, 0), 20 * n);
        }
        Probe.due("feed 101", p.book().feed(0, 0, 0, 0, 0), SetBook.FULL);
        Probe.due("end(2001)", p.book().end(2001), SetBook.NONE);
        Probe.due("end(2000)", p.book().end(2000), 2000);
    }

    private static boolean isLetter(int b) {
        return "abcdefghijklmnopqrstuvwxyz".indexOf(b) >= 0;
    }

    private static boolean isDigit(int b) {
        return "0123456789".indexOf(b) >= 0;
    }

    private static void wrong(Supplier<Probe> maker, Probe.Text call, String text, int place) {
        maker.get().ask(call, text, Probe.wrongAt(place));
    }

    private static void nameBegins() {
        Probe.sentence("A NAME: a letter a .. z, then letters a .. z and digits");
        for (int b = 0; b < BYTES; b++) {
            char c = (char) b;
            if (isLetter(b)) {
                new Probe().tree("dim " + c + "\nmar mm\n", 1);
                continue;
            }
            wrong(Probe::new, TREE, "dim " + c + "\nmar m\n", 4);
            wrong(Probe::new, TREE, "dim t\nmem " + c + " t\n", 10);
            wrong(Probe::new, TREE, "dim t\nmem a " + c + "\n", 12);
            wrong(Probe::new, TREE, "dim t\nmar " + c + "\n", 10);
            wrong(Probe::new, MARK, c + " m 1", 0);
            wrong(Probe::new, MARK, "t " + c + " 1", 2);
            wrong(Probe::new, SET, "full(t," + c + ")", 7);
            wrong(TextEdgesTest::withT, PLACE, "" + c, 0);
            if (c != '{' && c != '#') {
                wrong(Probe::new, SET, "" + c, 0);
            }
        }
    }

    private static void nameGoesOn() {
        Probe.sentence("A NAME: .., then letters a .. z and digits");
        for (int b = 0; b < BYTES; b++) {
            char c = (char) b;
            if (isLetter(b) || isDigit(b)) {
                new Probe().tree("dim t" + c + "\nmar m\n", 1);
                continue;
            }
            if (c != '\n') {
                wrong(Probe::new, TREE, "dim t" + c + "mar m\n", 5);
                wrong(Probe::new, TREE, "dim t\nmar m" + c, 11);
            }
            if (c != ' ') {
                wrong(Probe::new, TREE, "dim t\nmem a" + c + "t\n", 11);
                wrong(Probe::new, MARK, "t" + c + "m 1", 1);
                wrong(Probe::new, MARK, "t m" + c + "1", 3);
            }
            if ("+-&^*.".indexOf(c) < 0) {
                wrong(Probe::new, SET, "t" + c, 1);
            }
            wrong(TextEdgesTest::withT, PLACE, "t" + c, 1);
        }
    }

    private static void nameHasOneToEight() {
        Probe.sentence("A NAME: .., 1 to 8 in all.");
        String[] right = {"a", "z", "a0", "z9", "abcdefgh", "zyxwvuts", "a1234567"};
        for (String name : right) {
            Probe p = new Probe();
            p.tree("dim " + name + "\nmem k " + name + "\nmar m\n", 2);
            p.mark(name + " m 3", 1);
            p.makes(name + ".all", name + " k");
            p.place(name, 0);
            p.tree("dim t\nmem " + name + " t\nmar m\n", 2);
            p.makes(name, name);
            p.tree("dim t\nmar " + name + "\n", 1);
            p.mark("t " + name + " 3", 1);
            p.makes("full(t," + name + ")", "t");
        }
        Probe.wrongs(Probe::new, TREE, "dim \nmar m\n", "4", "dim t\nmem  t\n", "10", "dim t\nmar \n", "10",
                "dim abcdefghi\nmar m\n", "12");
    }

    private static void numberHasOneToNine() {
        Probe.sentence("A NUMBER: 1 to 9 digits");
        Probe.makes(Probe::small, "head(t.all,0)", "", "head(t.all,1)", "t", "head(t.all,9)", "t a c d b",
                "tail(t.all,0)", "", "tail(t.all,1)", "b", "head(t.all,10)", "t a c d b",
                "head(t.all,100000000)", "t a c d b", "head(t.all,999999999)", "t a c d b",
                "tail(t.all,999999999)", "t a c d b");
        Probe.wrongs(Probe::small, SET, "head(t,)", "7", "tail(t,)", "7", "top(t,,m)", "6", "low(t,,m)", "6",
                "head(t,/)", "7", "head(t,:)", "7", "head(t,1/)", "8", "head(t,1:)", "8", "head(t,-1)", "7",
                "head(t,1234567890)", "16");
    }

    private static void numberHasNoZeroAhead() {
        Probe.sentence("A NUMBER: .., no 0 ahead of others.");
        Probe.wrongs(Probe::small, SET, "head(t,00)", "8", "head(t,01)", "8", "tail(t,09)", "8", "top(t,00,m)", "7",
                "low(t,01,m)", "7", "head(t,0000000001)", "8", "over(t,m,00)", "10", "under(t,m,-01)", "11");
        Probe.wrongs(Probe::small, MARK, "t m 00", "5", "t m 01", "5", "t m -01", "5", "t m 0000000000", "5");
        Probe p = Probe.marked();
        p.makes("head(t.all,10)", "t a c d b");
        p.mark("t m 100", 6);
    }

    private static void intHasAMinus() {
        Probe.sentence("An INT: a NUMBER, perhaps with a - right ahead (not of 0).");
        Probe p = Probe.small();
        p.mark("t m -1", 1);
        Probe.due("number(0, 0, 0)", p.book().number(0, 0, 0), -1);
        p.mark("t m 0", 1);
        Probe.due("number(0, 0, 0)", p.book().number(0, 0, 0), 0);
        p.makes("over(t,m,-1)", "t");
        p.makes("over(t,m,0)", "");
        p.makes("over(t,m,-999999999)", "t");
        p.makes("under(t,m,999999999)", "t");
        Probe.wrongs(Probe::small, MARK, "t m -0", "5", "t m --1", "5", "t m - 1", "5", "t m -a", "5", "t m +1", "4",
                "t m 1-", "5");
        Probe.wrongs(Probe::small, SET, "over(t,m,-0)", "10", "over(t,m,-)", "10", "over(t,m,--1)", "10",
                "over(t,m,+1)", "9", "under(t,m,- 1)", "11", "over(t,m,1-)", "10", "under(t,m,-0", "11");
    }

    private static void tooShort() {
        Probe.sentence("WRONG: .. (its length, if it is too short)");
        Probe.wrongs(Probe::small, TREE, "", "0", "dim", "3", "dim ", "4", "dim t", "5", "dim t\n", "6",
                "dim t\nmem", "9", "dim t\nmem ", "10", "dim t\nmem a", "11", "dim t\nmem a ", "12",
                "dim t\nmem a t", "13", "dim t\nmem a t\n", "14", "dim t\nmar", "9", "dim t\nmar ", "10",
                "dim t\nmar m", "11", "dim t\nmar m\nmar", "15", "dim t\nmar m\nmar n", "17");
        Probe.wrongs(Probe::small, MARK, "", "0", "a", "1", "a ", "2", "a m", "3", "a m ", "4");
        Probe.wrongs(Probe::small, SET, "", "0", "a+", "2", "a-", "2", "a&", "2", "a^", "2", "a*", "2", "a.", "2",
                "#", "1", "{", "1", "{a", "2", "head", "4", "head(", "5", "head(a", "6", "head(a,", "7",
                "head(a,1", "8", "over(a,m", "8", "over(a,m,", "9", "over(a,m,-", "10", "over(a,m,1", "10",
                "top(a,1", "7", "top(a,1,", "8", "top(a,1,m", "9", "tree(a", "6", "each(a,", "7", "each(a,up", "9");
        Probe.wrongs(Probe::busy, PLACE, "", "0", "a", "1", "a.", "2");
    }

    private static void firstByteThatCannotGoOn() {
        Probe.sentence("WRONG: -1000 less the place of the first byte with which it can't go on to be right");
        Probe.wrongs(Probe::small, TREE, "\n", "0", "dim\tt\n", "3", "dim  t\n", "4", "dim t \n", "5",
                "dim t\n\n", "6", "dim t\nmem a\n", "11", "dim t\nmem a t t\n", "13", "dim t\nmar m\n\n", "12",
                "dim t\nmar m\n?", "12");
        Probe.wrongs(Probe::small, MARK, " a m 1", "0", "a  m 1", "2", "a m  1", "4", "a m 1 ", "5", "a m - ", "5",
                "a m 1\n", "5");
        Probe.wrongs(Probe::small, SET, " a", "0", "a ", "1", "a+ b", "2", "a +b", "1", "a++b", "2", "a}", "1", "a)", "1",
                "{a)", "2", "head(a}", "6", "head(a;1)", "6", "head(a,1}", "8", "a.kids.all", "6", "a#0", "1", "{a}{b}", "3");
        Probe.wrongs(Probe::busy, PLACE, ".x", "0", "a..x", "2", "a.x ", "3", "a,x", "1");
        Probe longest = new Probe();
        for (int n = 1; n <= 100; n++) {
            longest.book().feed(0x742B742B, 0x742B742B, 0x742B742B, 0x742B742B, 0x742B742B);
        }
        Probe.due("set of 2,000 bytes, one too short", longest.book().set(), Probe.wrongAt(2000));
    }

    private static void nameThatCannotStand() {
        Probe.sentence("a NAME that can't stand there by what it means .. at its first byte");
        Probe.wrongs(Probe::small, TREE, "dim t\ndim t\n", "10", "dim t\nmem abc abd\n", "14", "dim t\nmar t\n", "10",
                "dim ab\nmem ab ab\n", "11");
        Probe.wrongs(Probe::small, MARK, "q m 1", "0", "abcdefgh m 1", "0", "m m 1", "0", "a q 1", "2", "a a 1", "2",
                "a abcdefgh 1", "2");
        Probe.wrongs(Probe::small, SET, "q", "0", "m", "0", "abcdefgh", "0", "a+q", "2", "a*q", "2", "{q}", "1",
                "head(q,1)", "5", "full(a,q)", "7", "full(a,a)", "7", "top(a,1,t)", "8");
        Probe.wrongs(Probe::busy, PLACE, "q.x", "0", "m.x", "0", "a.q", "2", "a.abcdefgh", "2");
    }

    private static void wordThatIsNone() {
        Probe.sentence("or a word that is none, at its first byte");
        Probe.wrongs(Probe::small, TREE, "dom t\n", "0", "dimm t\n", "0", "di t\n", "0", "dim t\nmam m\n", "6",
                "dim t\nmems a t\n", "6", "dim t\nmar m\nmark n\n", "12", "dim t\nmar m\nmarmar", "12",
                "dim t\nkids a t\n", "6");
        Probe.wrongs(Probe::small, SET, "a.kin", "2", "a.kid", "2", "a.kidss", "2", "a.head", "2", "a.b", "2",
                "a.up1", "2", "each(a,kin)", "7", "each(a,uup)", "7", "each(a,m)", "7", "each(a,head)", "7");
    }

    private static void outOfRange() {
        Probe.sentence("a NUMBER or INT that is out of range at its first byte");
        Probe.wrongs(Probe::small, MARK, "a m 1000001", "4", "a m -1000001", "4", "a m 999999999", "4",
                "a m -999999999", "4", "a m 1000001 ", "4", "a m -1000001x", "4", "a m 10000000", "4");
        Probe p = Probe.small();
        p.mark("a m 1000000", 1);
        Probe.due("number(0, 1, 0)", p.book().number(0, 1, 0), 1000000);
        p.mark("a m -1000000", 1);
        Probe.due("number(0, 1, 0)", p.book().number(0, 1, 0), -1000000);
    }

    private static void longerThanNineDigits() {
        Probe.sentence("(of a longer one than nine digits at the tenth)");
        Probe.wrongs(Probe::small, MARK, "a m 1234567890", "13", "a m -1234567890", "14", "a m 12345678901", "13",
                "a m 4294967297", "13", "a m 18446744073709551617", "13", "a r 1000000000x", "13");
        Probe.wrongs(Probe::small, SET, "head(a,1234567890)", "16", "tail(a,4294967296)", "16",
                "top(a,10000000000,m)", "15", "low(a,1000000000,m)", "15", "over(a,m,1234567890)", "18",
                "over(a,m,-1234567890)", "19", "under(a,m,18446744073709551617)", "19", "head(a,1234567890", "16");
    }

    private static void lineTooMany() {
        Probe.sentence("a line too many at its first byte");
        String four = "dim a\ndim b\ndim c\ndim d\n";
        String full = Probe.wide("a", 29);
        String three = "dim a\nmar m\nmar n\nmar o\n";
        String[] texts = {four + "dim e\nmar m\n", four + "dim", four + "dim a\n", full + "mem b a\nmar m\n",
            full + "mem", full + "mem a0 q\n", three + "mar p\n", three + "mar", three + "mar a\n"};
        int[] places = {four.length(), four.length(), four.length(), full.length(), full.length(), full.length(),
            three.length(), three.length(), three.length()};
        for (int i = 0; i < texts.length; i++) {
            Probe.wrongs(Probe::small, TREE, texts[i], "" + places[i]);
        }
    }

    private static void nameIsAllThatStands() {
        Probe.sentence("A NAME is all the letters and digits that stand there");
        Probe.wrongs(Probe::small, TREE, "dim t\nmem a tt\n", "12", "dim t\nmem a t1\n", "12", "dim t\nmem dimt\n", "14");
        Probe.wrongs(Probe::small, MARK, "aa m 1", "0", "a1 m 1", "0", "a mm 1", "2", "a m1 1", "2", "am 1", "0");
        Probe.wrongs(Probe::small, SET, "aa", "0", "a1", "0", "ab", "0", "1a", "0", "full(a,mm)", "7", "full(a,m1)", "7",
                "headhead(a,1)", "0", "head1(a,1)", "0", "a.kidsb", "2", "a.kids1", "2");
        Probe.wrongs(Probe::busy, PLACE, "aa.x", "0", "a1.x", "0", "a.xx", "2", "a.x1", "2", "ax", "0");
        Probe p = new Probe();
        p.tree("dim t\nmem tt t\nmem t1 tt\nmem t11 t1\nmar m\nmar mm\n", 4);
        p.makes("tt+t1+t11", "tt t1 t11");
        p.mark("t11 mm 4", 1);
        p.mark("t1 m 4", 1);
    }

    private static void lookedAtAsItStands() {
        Probe.sentence("(also one, or a word, that ends where the text does: it is looked at as it stands");
        Probe.wrongs(Probe::small, TREE, "d", "0", "di", "0", "dim d", "5", "dim dim", "4", "dim t\nm", "6",
                "dim t\nme", "6", "dim t\nmem t", "10", "dim t\nmem a tx", "12", "dim t\nmem a x", "12",
                "dim t\nmar t", "10", "dim t\nmar mar", "10", "dim t\nmar m\nmar m", "16", "dim t\nmar m\nma", "12");
        Probe.wrongs(Probe::small, MARK, "q", "0", "ab", "0", "a q", "2", "a mm", "2", "a m 1000001", "4");
        Probe.wrongs(Probe::small, SET, "he", "0", "hea", "0", "turns", "0", "a.k", "2", "a.ki", "2", "each(a,k", "7",
                "full(a,q", "7", "full(a,mm", "7", "{q", "1", "a+q", "2");
        Probe.wrongs(Probe::busy, PLACE, "q", "0", "ab", "0", "a.q", "2", "a.a", "2", "x", "0");
    }

    private static void nameOfMoreThanEight() {
        Probe.sentence("of more than 8 it is WRONG at the ninth");
        Probe.wrongs(Probe::small, TREE, "dim abcdefghi\n", "12", "dim abcdefghi", "12", "dim abcdefghijklmnopq\n", "12",
                "dim t\nmem abcdefghi t\n", "18", "dim t\nmem a tbcdefghi\n", "20", "dim t\nmar abcdefghi\n", "18",
                "dim a12345678\n", "12", "dim dimdimdim\n", "12");
        Probe.wrongs(Probe::small, MARK, "abcdefghi m 1", "8", "a abcdefghi 1", "10", "abcdefghijkl", "8");
        Probe.wrongs(Probe::small, SET, "abcdefghi", "8", "a+abcdefghi", "10", "a*abcdefghijkl", "10",
                "full(a,abcdefghi)", "15", "{abcdefghi", "9", "abcdefghi(a)", "8");
        Probe.wrongs(Probe::busy, PLACE, "abcdefghi.x", "8", "a.abcdefghi", "10", "a.abcdefghijkl", "10");
        Probe p = new Probe();
        p.tree("dim abcdefgh\nmar m\n", 1);
        p.set("abcdefghi", Probe.wrongAt(8));
        p.set("abcdefgh", 1);
        p.place("abcdefghabcdefgh", Probe.wrongAt(8));
    }

    private static void wordOfMoreThanEight() {
        Probe.sentence("but a word of more than 8 at its first byte)");
        Probe.wrongs(Probe::small, TREE, "dimdimdim t\n", "0", "abcdefghi", "0", "abcdefgh", "0",
                "dim t\nmemmemmem a t\n", "6", "dim t\nmar m\nmarmarmarmar n\n", "12", "abcdefghdim t\n", "0",
                "\0\0\0\0\0dim t\n", "0", "aaaaaaaadim t\nmar m\n", "0");
        Probe.wrongs(Probe::small, SET, "a.kidskidsk", "2", "a.abcdefgh", "2", "a.abcdefghi", "2", "a.aaaaaaaakids", "2",
                "a.aaaaaaaaaaaakids", "2", "each(a,abcdefghi)", "7", "each(a,aaaaaaaaup)", "7");
    }

    private static void tapeIsEmptyBehind() {
        Probe.sentence("Behind a text's call the tape is empty, whatever it answers.");
        String[] trees = {"dim t\nmar m\n", "1", "dim t\n", "-1006"};
        String[] marks = {"a m 1", "5", "a m -", "4", "a m x", "-1004"};
        String[] sets = {"a", "1", "t.up", "0", "a?", "-1001"};
        String[] places = {"a.x", "0", "t.x", "-1", "a.a", "-1002"};
        emptyBehind(Probe::busy, TREE, trees);
        emptyBehind(Probe::busy, MARK, marks);
        emptyBehind(Probe::busy, SET, sets);
        emptyBehind(Probe::busy, PLACE, places);
        emptyBehind(TextEdgesTest::twoOfThirty, SET, "a.all*b.all", "-4");
    }

    private static Probe twoOfThirty() {
        Probe p = new Probe();
        p.tree(Probe.wide("a", 29) + Probe.wide("b", 29) + "mar m\n", 60);
        return p;
    }

    private static void emptyBehind(Supplier<Probe> maker, Probe.Text call, String... rows) {
        for (int i = 0; i + 1 < rows.length; i += 2) {
            Probe p = maker.get();
            p.ask(call, rows[i], Integer.parseInt(rows[i + 1]));
            Probe.due("end(1) behind it", p.book().end(1), SetBook.NONE);
            Probe.due("end(0) behind it", p.book().end(0), 0);
            Probe.due("feed behind it", p.book().feed(0x74000000, 0, 0, 0, 0), 20);
        }
    }

    private static void wrongChangesNothing() {
        Probe.sentence("WRONG texts change nothing.");
        Probe.wrongs(Probe::busy, TREE, "dim q\nmem z q\nmar r\nmar q\n", "24", "dim t\nmar m\nx", "12", "dim t\nmar m", "11");
        Probe.wrongs(Probe::busy, MARK, "a m 6x", "5", "a m - ", "5", "a m 1000001", "4", "d m 3\n", "5");
        Probe.wrongs(Probe::busy, SET, "b*y?", "3", "b+c+", "4", "#0+#3", "3", "turn(#3", "7");
        Probe.wrongs(Probe::busy, PLACE, "a.x.", "3", "a", "1", "", "0");
        Probe p = Probe.busy();
        p.tree("dim q\nmem z q\nmar r\nmar q\n", Probe.wrongAt(24));
        p.mark("a m 6x", Probe.wrongAt(5));
        p.set("turn(#3", Probe.wrongAt(7));
        p.set("#0+b+c+", Probe.wrongAt(7));
        p.set("rise(#3,m)?", Probe.wrongAt(10));
        p.place("a.x.", Probe.wrongAt(3));
        Probe.due("THE SHEET", p.sheet(), "b\n");
        Probe.due("THE SET", p.tuples(), "a.x a.y b.x b.y");
        p.makes("#0", "a");
        p.makes("#3", "c.x d.x");
    }
}
