import java.util.ArrayList;
import java.util.List;
import java.util.Random;

/** All promises: drawn runs of calls, each answer held against the model's. The seeds are fixed. */
public final class ModelTest {
    private static final int RUNS = 10000;
    private static final int CALLS_PROMISED = 512;
    /** What a step may need: a tree's text at its longest, and a look. */
    private static final int DEAREST_STEP = 220;
    private static final int LOOKS = 4;
    private static final int BYTES_LOOKED_AT = 20;
    private static final String[] NAMES = {"a", "b", "c", "d", "e", "f", "g", "h", "i", "j", "k", "l", "n", "o", "q",
        "s", "u", "v", "w", "x", "y", "z", "head", "tail", "full", "over", "under", "rise", "fall", "top", "low",
        "tree", "turn", "each", "kids", "all", "up", "deep", "longname", "a1", "b2", "c3d4e5f6", "z9"};
    private static final String[] ACTS = {"kids", "all", "ends", "up", "path", "sibs", "next", "back", "deep"};
    private static final String ALPHABET = "abmtx019 .,*+-&^#{}()\nhkZ_";

    private final Random draw;
    /** A big run has large trees and mostly all of them, so that SETS come near what they may have. */
    private final boolean big;
    private final SetBook book = new SetBook();
    private int calls = 0;
    private final Model model = new Model();
    private final List<List<String>> members = new ArrayList<>();
    private final List<String> marks = new ArrayList<>();

    private ModelTest(long seed) {
        draw = new Random(seed);
        big = seed % 3 == 0;
        members.add(new ArrayList<>(List.of("t")));
        marks.add("m");
    }

    public static void main(String[] args) {
        int runs = args.length > 0 ? Integer.parseInt(args[0]) : RUNS;
        int first = args.length > 1 ? Integer.parseInt(args[1]) : 0;
        for (int seed = first; seed < first + runs; seed++) {
            ModelTest run = new ModelTest(seed);
            run.step(seed, 0);
            while (run.calls + DEAREST_STEP <= CALLS_PROMISED) {
                run.step(seed, run.draw.nextInt(100));
            }
        }
        Probe.finish();
    }

    private SetBook book() {
        calls++;
        if (calls > CALLS_PROMISED) {
            throw new IllegalStateException("a run makes more calls than are promised");
        }
        return book;
    }

    private void step(int seed, int kind) {
        String run = "run " + seed + ": ";
        if (kind < 8) {
            String text = spoil(treeText(), 4);
            lay(run, text);
            Probe.due(run + "tree of " + Probe.shown(text), book().tree(), model.tree());
            learn();
        } else if (kind < 28) {
            String text = spoil(markText(), 6);
            lay(run, text);
            Probe.due(run + "mark of " + Probe.shown(text), book().mark(), model.mark());
        } else if (kind < 68) {
            String text = spoil(setText(), 4);
            lay(run, text);
            Probe.due(run + "set of " + Probe.shown(text), book().set(), model.set());
        } else if (kind < 76) {
            String text = spoil(tupleText(), 6);
            lay(run, text);
            Probe.due(run + "place of " + Probe.shown(text), book().place(), model.place());
        } else if (kind < 86) {
            int k = draw.nextInt(8) - 1;
            Probe.due(run + "keep " + k, book().keep(k), model.keep(k));
        } else if (kind < 88) {
            int k = draw.nextInt(8) - 1;
            Probe.due(run + "drop " + k, book().drop(k), model.drop(k));
        } else if (kind < 91) {
            oddCalls(run);
        } else {
            Probe.due(run + "print", book().print(), model.print());
            for (int n = 0; n < BYTES_LOOKED_AT; n++) {
                int i = drawnPlace(model.count(6));
                Probe.due(run + "printed " + i, book().printed(i), model.printed(i));
            }
        }
        look(run);
    }

    /** Bytes of any kind, an end of any kind, and numbers from all over the range; the tape is left as it is. */
    private void oddCalls(String run) {
        int[] five = {draw.nextInt(), 0x742E616C, oddInt(), 0x612B6220, draw.nextInt()};
        Probe.due(run + "feed", book().feed(five[0], five[1], five[2], five[3], five[4]), model.feed(five));
        int n = draw.nextInt(3) == 0 ? oddInt() : draw.nextInt(30) - 2;
        Probe.due(run + "end " + n, book().end(n), model.end(n));
        int a = oddInt();
        int b = oddInt();
        int c = oddInt();
        Probe.due(run + "tuple " + a + " " + b, book().tuple(a, b), model.tuple(a, b));
        Probe.due(run + "shows " + a + " " + b, book().shows(a, b), model.shows(a, b));
        Probe.due(run + "member " + a + " " + b + " " + c, book().member(a, b, c), model.member(a, b, c));
        Probe.due(run + "number " + a + " " + b + " " + c, book().number(a, b, c), model.number(a, b, c));
        Probe.due(run + "printed " + a, book().printed(a), model.printed(a));
        Probe.due(run + "count " + a, book().count(a), model.count(a));
        Probe.due(run + "keep " + a, book().keep(a), model.keep(a));
        Probe.due(run + "drop " + b, book().drop(b), model.drop(b));
    }

    private int oddInt() {
        return draw.nextInt(3) == 0 ? draw.nextInt(4) : draw.nextInt() >> draw.nextInt(32);
    }

    private void look(String run) {
        for (int what = -1; what < 8; what++) {
            Probe.due(run + "count " + what, book().count(what), model.count(what));
        }
        for (int n = 0; n < LOOKS; n++) {
            int i = drawnPlace(model.count(3));
            int d = draw.nextInt(6) - 1;
            Probe.due(run + "tuple " + i + " " + d, book().tuple(i, d), model.tuple(i, d));
            Probe.due(run + "shows " + i + " " + d, book().shows(i, d), model.shows(i, d));
            int k = draw.nextInt(33) - 1;
            int what = draw.nextInt(6) - 1;
            Probe.due(run + "member", book().member(d, k, what), model.member(d, k, what));
            Probe.due(run + "number", book().number(d, k, what), model.number(d, k, what));
        }
    }

    /** A place among so many, or right beside them. */
    private int drawnPlace(int many) {
        return draw.nextInt(many + 2) - 1;
    }

    private void lay(String run, String text) {
        for (int i = 0; i < text.length(); i += 20) {
            int[] five = Probe.five(text, i);
            int got = book().feed(five[0], five[1], five[2], five[3], five[4]);
            Probe.due(run + "feed", got, model.feed(five));
        }
        // Behind bytes that odd calls left, this cuts the text as well.
        Probe.due(run + "end", book().end(text.length()), model.end(text.length()));
    }

    /** In one of so many cases, a text with a byte or more changed, put in or left out. */
    private String spoil(String text, int oneOf) {
        if (draw.nextInt(oneOf) != 0) {
            return text;
        }
        StringBuilder spoilt = new StringBuilder(text);
        for (int n = draw.nextInt(2); n >= 0 && spoilt.length() > 0; n--) {
            int at = draw.nextInt(spoilt.length());
            char c = ALPHABET.charAt(draw.nextInt(ALPHABET.length()));
            switch (draw.nextInt(5)) {
                case 0:
                    spoilt.setCharAt(at, c);
                    break;
                case 1:
                    spoilt.insert(at, c);
                    break;
                case 2:
                    spoilt.deleteCharAt(at);
                    break;
                case 3:
                    spoilt.setLength(at);
                    break;
                default:
                    spoilt.append(c);
                    break;
            }
        }
        return spoilt.toString();
    }

    private List<List<String>> drawnMembers;
    private List<String> drawnMarks;

    private String treeText() {
        List<String> free = new ArrayList<>(List.of(NAMES));
        drawnMembers = new ArrayList<>();
        drawnMarks = new ArrayList<>();
        StringBuilder text = new StringBuilder();
        int dimensions = 1 + draw.nextInt(draw.nextInt(8) == 0 ? 5 : 4);
        for (int d = 0; d < dimensions; d++) {
            drawnMembers.add(new ArrayList<>());
            int size = 1 + (big ? 5 + draw.nextInt(16) : draw.nextInt(draw.nextInt(6) == 0 ? 31 : 9));
            boolean chain = !big && draw.nextInt(3) == 0;
            for (int k = 0; k < size; k++) {
                treeLine(text, free, d, chain);
            }
        }
        int many = draw.nextInt(10) == 0 ? draw.nextInt(5) : 1 + draw.nextInt(3);
        for (int k = 0; k < many; k++) {
            String name = newName(free, 30);
            drawnMarks.add(name);
            text.append("mar ").append(name).append('\n');
        }
        return text.toString();
    }

    private void treeLine(StringBuilder text, List<String> free, int d, boolean chain) {
        List<String> here = drawnMembers.get(d);
        String name = newName(free, 100);
        if (here.isEmpty()) {
            text.append("dim ").append(name).append('\n');
        } else {
            int back = chain ? Math.min(here.size(), 2) : here.size();
            String parent = here.get(here.size() - 1 - draw.nextInt(back));
            text.append("mem ").append(name).append(' ').append(parent).append('\n');
        }
        here.add(name);
    }

    private String newName(List<String> free, int oddOneOf) {
        if (draw.nextInt(oddOneOf) == 0) {
            return oddName();
        }
        if (!free.isEmpty() && draw.nextInt(4) != 0) {
            return free.remove(draw.nextInt(free.size()));
        }
        return "n" + draw.nextInt(1000000);
    }

    private String oddName() {
        String[] odd = {"dim", "mem", "mar", "abcdefghi", "abcdefghijkl", "9a", "", "A", "a", "t", "m", "head"};
        return odd[draw.nextInt(odd.length)];
    }

    /** The names are those of the tree that was told last, if it was right. */
    private void learn() {
        if (model.count(3) == 0 && model.count(4) == 0 && drawnMembers.size() == model.count(0)) {
            members.clear();
            members.addAll(drawnMembers);
            marks.clear();
            marks.addAll(drawnMarks);
        }
    }

    private String oneOf(List<String> names) {
        return names.isEmpty() || draw.nextInt(60) == 0 ? oddName() : names.get(draw.nextInt(names.size()));
    }

    private String anyMember() {
        return oneOf(members.get(draw.nextInt(members.size())));
    }

    private String drawnInt() {
        switch (draw.nextInt(12)) {
            case 0:
                return "" + (draw.nextInt(2000010) - 1000005);
            case 1:
                return "-" + draw.nextInt(3);
            case 2:
                return "0" + draw.nextInt(3);
            case 3:
                return "" + (draw.nextLong() >> draw.nextInt(60));
            default:
                return "" + (draw.nextInt(21) - 10);
        }
    }

    private String markText() {
        String value = draw.nextInt(8) == 0 ? "-" : draw.nextInt(3) == 0 ? drawnInt() : "" + (draw.nextInt(9) - 4);
        return anyMember() + " " + oneOf(marks) + " " + value;
    }

    private String tupleText() {
        int size = model.count(3);
        if (size > 0 && draw.nextInt(4) != 0) {
            return drawnTuple(draw.nextInt(size));
        }
        StringBuilder text = new StringBuilder();
        for (int d = draw.nextInt(2); d < members.size(); d += 1 + draw.nextInt(2)) {
            text.append(text.length() == 0 ? "" : ".").append(oneOf(members.get(d)));
        }
        return text.toString();
    }

    private String drawnTuple(int i) {
        StringBuilder text = new StringBuilder();
        for (int d = 0; d < members.size(); d++) {
            int k = model.tuple(i, d);
            if (k >= 0) {
                String name = k < members.get(d).size() ? members.get(d).get(k) : "q";
                text.append(text.length() == 0 ? "" : ".").append(name);
            }
        }
        return text.toString();
    }

    private String setText() {
        List<Integer> order = new ArrayList<>();
        for (int d = 0; d < members.size(); d++) {
            order.add(draw.nextInt(order.size() + 1), d);
        }
        int width = 1 + draw.nextInt(big || draw.nextInt(3) == 0 ? order.size() : Math.min(2, order.size()));
        StringBuilder text = new StringBuilder();
        addSet(text, order.subList(0, width), draw.nextInt(7));
        return text.toString();
    }

    private void addSet(StringBuilder text, List<Integer> order, int left) {
        int items = 1 + draw.nextInt(3) * draw.nextInt(2);
        for (int n = 0; n < items; n++) {
            if (n > 0) {
                text.append("+-&^".charAt(draw.nextInt(4)));
            }
            addItem(text, draw.nextInt(80) == 0 ? List.of(draw.nextInt(members.size())) : order, left);
        }
    }

    private void addItem(StringBuilder text, List<Integer> order, int left) {
        if (draw.nextInt(12) == 0) {
            text.append('#').append(draw.nextInt(40) == 0 ? 7 : draw.nextInt(6));
            return;
        }
        int from = 0;
        while (from < order.size()) {
            int to = left > 0 && draw.nextInt(3) == 0 ? from + 1 + draw.nextInt(order.size() - from) : from + 1;
            text.append(from > 0 ? "*" : "");
            addPart(text, order.subList(from, to), left);
            from = to;
        }
    }

    private void addPart(StringBuilder text, List<Integer> order, int left) {
        if (left > 0 && (order.size() > 1 || draw.nextInt(2) == 0)) {
            if (draw.nextInt(3) == 0) {
                text.append('{');
                addSet(text, order, left - 1);
                text.append('}');
            } else {
                addFunction(text, order, left - 1);
            }
            return;
        }
        if (order.size() > 1) {
            text.append('#').append(draw.nextInt(6));
            return;
        }
        List<String> here = members.get(order.get(0));
        if (big && draw.nextInt(2) == 0) {
            text.append(here.get(0)).append(draw.nextInt(2) == 0 ? ".kids" : ".all");
            return;
        }
        text.append(draw.nextInt(3) == 0 && !here.isEmpty() ? here.get(0) : oneOf(here));
        if (draw.nextInt(3) != 0) {
            text.append('.').append(draw.nextInt(60) == 0 ? oddName() : ACTS[draw.nextInt(ACTS.length)]);
        }
    }

    private void addFunction(StringBuilder text, List<Integer> order, int left) {
        String[] names = {"head", "tail", "full", "over", "under", "rise", "fall", "top", "low", "turn", "tree", "each"};
        String[] things = {"n", "n", "m", "mi", "mi", "m", "m", "nm", "nm", "", "", "a"};
        int which = draw.nextInt(order.size() > 1 && draw.nextInt(10) != 0 ? 10 : 12);
        text.append(names[which]).append('(');
        addSet(text, order, left);
        for (char thing : things[which].toCharArray()) {
            text.append(',');
            if (thing == 'n') {
                text.append(draw.nextInt(20) == 0 ? drawnInt() : "" + draw.nextInt(12));
            } else if (thing == 'm') {
                text.append(oneOf(marks));
            } else if (thing == 'i') {
                text.append(draw.nextInt(4) == 0 ? drawnInt() : "" + (draw.nextInt(9) - 4));
            } else {
                text.append(ACTS[draw.nextInt(ACTS.length)]);
            }
        }
        text.append(')');
    }
}
