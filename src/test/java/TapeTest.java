/** Promises 2 and 3: feed and end. */
public final class TapeTest {
    public static void main(String[] args) {
        bytesComeInOrder();
        fullAtTwoThousand();
        cuts();
        emptyBehindEachText();
        Probe.finish();
    }

    private static void bytesComeInOrder() {
        Probe p = new Probe();
        Probe.due("feed", p.book().feed(0x64696D20, 0x61626364, 0x0A6D656D, 0x20652061, 0x6263640A), 20);
        Probe.due("feed", p.book().feed(0x6D617220, 0x7A0A0000, 0, 0, 0), 40);
        Probe.due("end(26)", p.book().end(26), 26);
        Probe.due("tree()", p.book().tree(), 2);
        p.makes("abcd.all", "abcd e");
    }

    private static void fullAtTwoThousand() {
        Probe p = new Probe();
        for (int n = 1; n <= 100; n++) {
            Probe.due("feed", p.book().feed(0x742B742B, 0x742B742B, 0x742B742B, 0x742B742B, 0x742B742B), 20 * n);
        }
        Probe.due("feed", p.book().feed(0, 0, 0, 0, 0), SetBook.FULL);
        Probe.due("end(2001)", p.book().end(2001), SetBook.NONE);
        Probe.due("end(2000)", p.book().end(2000), 2000);
        Probe.due("set()", p.book().set(), -3000);
        for (int n = 1; n <= 100; n++) {
            p.book().feed(0x742B742B, 0x742B742B, 0x742B742B, 0x742B742B, 0x742B742B);
        }
        Probe.due("end(1999)", p.book().end(1999), 1999);
        Probe.due("feed", p.book().feed(0, 0, 0, 0, 0), SetBook.FULL);
        Probe.due("set()", p.book().set(), 1);
        for (int n = 1; n <= 100; n++) {
            p.book().feed(0, 0, 0, 0, 0);
        }
        Probe.due("end(1981)", p.book().end(1981), 1981);
        Probe.due("feed", p.book().feed(0, 0, 0, 0, 0), SetBook.FULL);
        Probe.due("end(1980)", p.book().end(1980), 1980);
        Probe.due("feed", p.book().feed(0, 0, 0, 0, 0), 2000);
    }

    private static void cuts() {
        Probe p = new Probe();
        Probe.due("end(0)", p.book().end(0), 0);
        Probe.due("end(1)", p.book().end(1), SetBook.NONE);
        Probe.due("end(-1)", p.book().end(-1), SetBook.NONE);
        p.book().feed(0x742B7400, 0, 0, 0, 0);
        Probe.due("end(21)", p.book().end(21), SetBook.NONE);
        Probe.due("end(MIN)", p.book().end(Integer.MIN_VALUE), SetBook.NONE);
        Probe.due("end(MAX)", p.book().end(Integer.MAX_VALUE), SetBook.NONE);
        Probe.due("end(20)", p.book().end(20), 20);
        Probe.due("end(2)", p.book().end(2), 2);
        Probe.due("end(3)", p.book().end(3), SetBook.NONE);
        Probe.due("feed", p.book().feed(0x74000000, 0, 0, 0, 0), 22);
        Probe.due("end(3)", p.book().end(3), 3);
        Probe.due("set()", p.book().set(), 1);
    }

    private static void emptyBehindEachText() {
        Probe p = new Probe();
        String[] texts = {"t", "?", "t m 1", "dim t\nmar m\n", "t.up", "t.", ""};
        for (String text : texts) {
            for (Probe.Text call : Probe.Text.values()) {
                p.lay(text);
                p.call(call);
                Probe.due("end(1) behind call " + call + " of " + Probe.shown(text), p.book().end(1), SetBook.NONE);
                Probe.due("feed behind it", p.book().feed(0, 0, 0, 0, 0), 20);
                p.book().end(0);
            }
        }
    }
}
