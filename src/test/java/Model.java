import java.util.ArrayList;
import java.util.Arrays;
import java.util.Collections;
import java.util.Comparator;
import java.util.LinkedHashSet;
import java.util.List;
import java.util.Objects;
import java.util.function.Supplier;

/** The document once more, told with lists and exceptions alone, to be held against SetBook. */
final class Model {
    private static final List<String> WORDS = List.of("dim", "mem", "mar");
    private static final List<String> ACTS =
            List.of("kids", "all", "ends", "up", "path", "sibs", "next", "back", "deep");
    private static final List<String> FUNCTIONS = List.of("head", "tail", "full", "over", "under", "rise", "fall",
            "top", "low", "tree", "turn", "each");

    private static final class Wrong extends RuntimeException {
        private static final long serialVersionUID = 1L;
        final int at;

        Wrong(int at) {
            super(null, null, false, false);
            this.at = at;
        }
    }

    private static final class TooMany extends RuntimeException {
        private static final long serialVersionUID = 1L;

        TooMany() {
            super(null, null, false, false);
        }
    }

    private static final class Node {
        final String name;
        final Node parent;
        final int dimension;
        final int place;
        final List<Node> kids = new ArrayList<>();
        final Integer[] numbers = new Integer[3];

        Node(String name, Node parent, int dimension, int place) {
            this.name = name;
            this.parent = parent;
            this.dimension = dimension;
            this.place = place;
        }

        int depth() {
            return parent == null ? 0 : parent.depth() + 1;
        }

        List<Node> all() {
            List<Node> all = new ArrayList<>(List.of(this));
            kids.forEach(kid -> all.addAll(kid.all()));
            return all;
        }

        List<Node> ends() {
            List<Node> ends = all();
            ends.removeIf(node -> !node.kids.isEmpty());
            return ends;
        }

        List<Node> sibs() {
            return parent == null ? List.of(this) : parent.kids;
        }
    }

    /** What was read: its DIMENSIONS are known at once, its TUPLES only when the text is right. */
    private static final class Told {
        final List<Integer> dimensions;
        final Supplier<List<List<Node>>> tuples;

        Told(List<Integer> dimensions, Supplier<List<List<Node>>> tuples) {
            this.dimensions = dimensions;
            this.tuples = tuples;
        }
    }

    private List<List<Node>> trees = new ArrayList<>();
    private List<String> marks = new ArrayList<>();
    private List<Integer> setDimensions = List.of();
    private List<List<Node>> setTuples = List.of();
    private final Told[] kept = new Told[6];
    private String tape = "";
    private String sheet = "";
    private int at;

    Model() {
        trees.add(List.of(new Node("t", null, 0, 0)));
        marks.add("m");
    }

    int feed(int... five) {
        if (tape.length() + 20 > 2000) {
            return -4;
        }
        StringBuilder more = new StringBuilder(tape);
        for (int word : five) {
            for (int i = 3; i >= 0; i--) {
                more.append((char) (word >> 8 * i & 255));
            }
        }
        tape = more.toString();
        return tape.length();
    }

    int end(int n) {
        if (n < 0 || n > tape.length()) {
            return -1;
        }
        tape = tape.substring(0, n);
        return n;
    }

    private int text(Supplier<Integer> reading) {
        at = 0;
        try {
            return reading.get();
        } catch (Wrong wrong) {
            return -1000 - wrong.at;
        } catch (TooMany many) {
            return -4;
        } finally {
            tape = "";
        }
    }

    private char now() {
        return at < tape.length() ? tape.charAt(at) : '\uffff';
    }

    private void expect(char c) {
        if (now() != c) {
            throw new Wrong(at);
        }
        at++;
    }

    private void expectEnd() {
        if (at < tape.length()) {
            throw new Wrong(at);
        }
    }

    private String word() {
        int from = at;
        while (String.valueOf(now()).matches("[a-z0-9]")) {
            at++;
        }
        return tape.substring(from, at);
    }

    private String name() {
        int from = at;
        if (now() < 'a' || now() > 'z') {
            throw new Wrong(at);
        }
        String name = word();
        if (name.length() > 8) {
            throw new Wrong(from + 8);
        }
        return name;
    }

    private int whole(boolean signed) {
        String rest = tape.substring(at);
        if (signed && rest.startsWith("-")) {
            at++;
            if (now() == '0') {
                throw new Wrong(at);
            }
            return -whole(false);
        }
        if (now() < '0' || now() > '9') {
            throw new Wrong(at);
        }
        String digits = rest.replaceFirst("(?s)[^0-9].*", "");
        int most = digits.startsWith("0") ? 1 : 9;
        if (digits.length() > most) {
            throw new Wrong(at + most);
        }
        at += digits.length();
        return Integer.parseInt(digits);
    }

    private static Node find(List<List<Node>> in, String name) {
        return in.stream().flatMap(List::stream).filter(n -> n.name.equals(name)).findFirst().orElse(null);
    }

    private Node memberName() {
        int from = at;
        Node node = find(trees, name());
        if (node == null) {
            throw new Wrong(from);
        }
        return node;
    }

    private int markName() {
        int from = at;
        int k = marks.indexOf(name());
        if (k < 0) {
            throw new Wrong(from);
        }
        return k;
    }

    int tree() {
        return text(() -> {
            List<List<Node>> newTrees = new ArrayList<>();
            List<String> newMarks = new ArrayList<>();
            while (at < tape.length()) {
                treeLine(newTrees, newMarks);
            }
            if (newMarks.isEmpty()) {
                throw new Wrong(at);
            }
            trees = newTrees;
            marks = newMarks;
            setDimensions = List.of();
            setTuples = List.of();
            Arrays.fill(kept, null);
            return count(2);
        });
    }

    private void treeLine(List<List<Node>> newTrees, List<String> newMarks) {
        int from = at;
        String word = word();
        List<Node> last = newTrees.isEmpty() ? List.of() : newTrees.get(newTrees.size() - 1);
        boolean mayDim = newMarks.isEmpty() && newTrees.size() < 4;
        boolean mayMem = newMarks.isEmpty() && !last.isEmpty() && last.size() < 30;
        boolean mayMar = !last.isEmpty() && newMarks.size() < 3;
        if (!(word.equals("dim") && mayDim || word.equals("mem") && mayMem || word.equals("mar") && mayMar)) {
            throw new Wrong(from);
        }
        expect(' ');
        int nameFrom = at;
        String name = name();
        if (WORDS.contains(name) || find(newTrees, name) != null || newMarks.contains(name)) {
            throw new Wrong(nameFrom);
        }
        if (word.equals("dim")) {
            newTrees.add(new ArrayList<>(List.of(new Node(name, null, newTrees.size(), 0))));
        } else if (word.equals("mar")) {
            newMarks.add(name);
        } else {
            expect(' ');
            int parentFrom = at;
            Node parent = find(List.of(last), name());
            if (parent == null || parent.depth() == 6) {
                throw new Wrong(parentFrom);
            }
            Node node = new Node(name, parent, parent.dimension, last.size());
            parent.kids.add(node);
            last.add(node);
        }
        expect('\n');
    }

    int mark() {
        return text(() -> {
            Node node = memberName();
            expect(' ');
            int k = markName();
            expect(' ');
            int from = at;
            Integer value = null;
            if (!tape.substring(at).equals("-")) {
                value = whole(true);
                if (Math.abs(value) > 1000000) {
                    throw new Wrong(from);
                }
                expectEnd();
            }
            node.numbers[k] = value;
            return (int) trees.stream().flatMap(List::stream).filter(n -> n.numbers[k] != null).count();
        });
    }

    int set() {
        return text(() -> {
            Told told = readSet(0);
            expectEnd();
            List<List<Node>> tuples = told.tuples.get();
            setTuples = tuples;
            setDimensions = told.dimensions;
            return tuples.size();
        });
    }

    private static List<List<Node>> bounded(List<List<Node>> tuples) {
        if (tuples.size() > 200) {
            throw new TooMany();
        }
        return tuples;
    }

    private Told readSet(int depth) {
        Told sum = readItem(depth);
        while ("+-&^".indexOf(now()) >= 0) {
            char sign = now();
            at++;
            int from = at;
            Told left = sum;
            Told right = readItem(depth);
            if (!left.dimensions.equals(right.dimensions)) {
                throw new Wrong(from);
            }
            sum = new Told(left.dimensions, () -> bounded(join(left.tuples.get(), right.tuples.get(), sign)));
        }
        return sum;
    }

    private static List<List<Node>> join(List<List<Node>> left, List<List<Node>> right, char sign) {
        LinkedHashSet<List<Node>> answer = new LinkedHashSet<>(left);
        LinkedHashSet<List<Node>> others = new LinkedHashSet<>(right);
        if (sign == '+') {
            answer.addAll(right);
        } else if (sign == '-') {
            answer.removeAll(others);
        } else if (sign == '&') {
            answer.retainAll(others);
        } else {
            answer.removeAll(others);
            others.removeAll(new LinkedHashSet<>(left));
            answer.addAll(others);
        }
        return new ArrayList<>(answer);
    }

    private Told readItem(int depth) {
        Told product = readPart(depth);
        while (now() == '*') {
            at++;
            int from = at;
            Told left = product;
            Told right = readPart(depth);
            if (!Collections.disjoint(left.dimensions, right.dimensions)) {
                throw new Wrong(from);
            }
            List<Integer> dimensions = new ArrayList<>(left.dimensions);
            dimensions.addAll(right.dimensions);
            product = new Told(dimensions, () -> {
                List<List<Node>> tuples = new ArrayList<>();
                List<List<Node>> behind = right.tuples.get();
                for (List<Node> one : left.tuples.get()) {
                    for (List<Node> two : behind) {
                        List<Node> both = new ArrayList<>(one);
                        both.addAll(two);
                        tuples.add(both);
                    }
                }
                return bounded(tuples);
            });
        }
        return product;
    }

    private Told readPart(int depth) {
        int from = at;
        if (now() == '#') {
            at++;
            if (now() < '0' || now() > '5') {
                throw new Wrong(at);
            }
            Told there = kept[now() - '0'];
            if (there == null) {
                throw new Wrong(from);
            }
            at++;
            return there;
        }
        if (now() == '{') {
            if (depth == 5) {
                throw new Wrong(from);
            }
            at++;
            Told inside = readSet(depth + 1);
            expect('}');
            return inside;
        }
        String name = name();
        Node node = find(trees, name);
        if (FUNCTIONS.contains(name) && (now() == '(' || node == null)) {
            if (depth == 5) {
                throw new Wrong(from);
            }
            return readFunction(name, depth);
        }
        if (node == null) {
            throw new Wrong(from);
        }
        List<Node> nodes = List.of(node);
        if (now() == '.') {
            at++;
            nodes = act(node, actWord());
        }
        List<List<Node>> tuples = new ArrayList<>();
        nodes.forEach(n -> tuples.add(List.of(n)));
        return new Told(List.of(node.dimension), () -> tuples);
    }

    private String actWord() {
        int from = at;
        String word = word();
        if (!ACTS.contains(word)) {
            throw new Wrong(from);
        }
        return word;
    }

    private List<Node> act(Node node, String act) {
        int among = node.sibs().indexOf(node);
        List<Node> found = new ArrayList<>();
        switch (act) {
            case "kids":
                return node.kids;
            case "all":
                return node.all();
            case "ends":
                return node.ends();
            case "up":
                return node.parent == null ? found : List.of(node.parent);
            case "path":
                for (Node n = node; n != null; n = n.parent) {
                    found.add(n);
                }
                return found;
            case "sibs":
                return node.sibs();
            case "next":
                return among + 1 < node.sibs().size() ? List.of(node.sibs().get(among + 1)) : found;
            case "back":
                return among > 0 ? List.of(node.sibs().get(among - 1)) : found;
            default:
                trees.get(node.dimension).stream().filter(n -> n.depth() == node.depth()).forEach(found::add);
                return found;
        }
    }

    private Told readFunction(String name, int depth) {
        expect('(');
        int from = at;
        Told inside = readSet(depth + 1);
        boolean single = name.equals("tree") || name.equals("each");
        if (single && inside.dimensions.size() != 1) {
            throw new Wrong(from);
        }
        int n = 0;
        int k = 0;
        String act = "";
        if (List.of("head", "tail", "top", "low").contains(name)) {
            expect(',');
            n = whole(false);
        }
        if (List.of("full", "over", "under", "rise", "fall", "top", "low").contains(name)) {
            expect(',');
            k = markName();
        }
        if (List.of("over", "under").contains(name)) {
            expect(',');
            n = whole(true);
        }
        if (name.equals("each")) {
            expect(',');
            act = actWord();
        }
        expect(')');
        int number = n;
        int mark = k;
        String word = act;
        return new Told(inside.dimensions, () -> apply(name, inside.tuples.get(), number, mark, word));
    }

    private static Integer shown(List<Node> tuple, int k) {
        int sum = 0;
        for (Node node : tuple) {
            if (node.numbers[k] == null) {
                return null;
            }
            sum += node.numbers[k];
        }
        return sum;
    }

    private List<List<Node>> apply(String name, List<List<Node>> in, int n, int k, String act) {
        List<List<Node>> out = new ArrayList<>(in);
        List<List<Node>> some = new ArrayList<>(in);
        some.removeIf(t -> shown(t, k) == null);
        Comparator<List<Node>> up = Comparator.comparing(t -> shown(t, k));
        switch (name) {
            case "head":
                return out.subList(0, Math.min(n, out.size()));
            case "tail":
                return out.subList(Math.max(0, out.size() - n), out.size());
            case "full":
                return some;
            case "over":
                some.removeIf(t -> shown(t, k) <= n);
                return some;
            case "under":
                some.removeIf(t -> shown(t, k) >= n);
                return some;
            case "rise":
            case "fall":
                some.sort(name.equals("rise") ? up : up.reversed());
                out.removeAll(new LinkedHashSet<>(some));
                some.addAll(out);
                return some;
            case "top":
            case "low":
                some.sort(name.equals("low") ? up : up.reversed());
                return some.subList(0, Math.min(n, some.size()));
            case "tree":
                if (!out.isEmpty()) {
                    List<Node> walk = trees.get(out.get(0).get(0).dimension).get(0).all();
                    out.sort(Comparator.comparing(t -> walk.indexOf(t.get(0))));
                }
                return out;
            case "turn":
                Collections.reverse(out);
                return out;
            default:
                LinkedHashSet<List<Node>> each = new LinkedHashSet<>();
                in.forEach(t -> act(t.get(0), act).forEach(node -> each.add(List.of(node))));
                return new ArrayList<>(each);
        }
    }

    int keep(int k) {
        if (k < 0 || k > 5 || setDimensions.isEmpty()) {
            return -1;
        }
        List<List<Node>> tuples = setTuples;
        kept[k] = new Told(setDimensions, () -> tuples);
        return tuples.size();
    }

    int drop(int k) {
        if (k < 0 || k > 5 || kept[k] == null) {
            return -1;
        }
        int size = kept[k].tuples.get().size();
        kept[k] = null;
        return size;
    }

    int tuple(int i, int dimension) {
        if (i < 0 || i >= setTuples.size()) {
            return -1;
        }
        return setTuples.get(i).stream().filter(n -> n.dimension == dimension).map(n -> n.place).findFirst().orElse(-1);
    }

    int shows(int i, int k) {
        if (i < 0 || i >= setTuples.size() || k < 0 || k >= marks.size()) {
            return -2000000000;
        }
        return Objects.requireNonNullElse(shown(setTuples.get(i), k), -2000000000);
    }

    int place() {
        return text(() -> {
            List<Node> tuple = new ArrayList<>();
            for (int dimension : setDimensions) {
                if (!tuple.isEmpty()) {
                    expect('.');
                }
                int from = at;
                Node node = memberName();
                if (dimension != node.dimension) {
                    throw new Wrong(from);
                }
                tuple.add(node);
            }
            expectEnd();
            return setTuples.indexOf(tuple);
        });
    }

    int print() {
        StringBuilder lines = new StringBuilder();
        for (List<Node> tuple : setTuples) {
            for (Node node : tuple) {
                lines.append(node == tuple.get(0) ? "" : ".").append(node.name);
            }
            lines.append('\n');
        }
        if (lines.length() > 3000) {
            return -4;
        }
        sheet = lines.toString();
        return sheet.length();
    }

    int printed(int i) {
        return i < 0 || i >= sheet.length() ? -1 : sheet.charAt(i);
    }

    private Node at(int dimension, int k) {
        boolean there = dimension >= 0 && dimension < trees.size() && k >= 0 && k < trees.get(dimension).size();
        return there ? trees.get(dimension).get(k) : null;
    }

    int member(int dimension, int k, int what) {
        Node node = at(dimension, k);
        if (node == null || what < 0 || what > 3) {
            return -1;
        }
        int parent = node.parent == null ? -1 : node.parent.place;
        return List.of(parent, node.kids.size(), node.depth(), node.ends().size()).get(what);
    }

    int number(int dimension, int k, int mark) {
        Node node = at(dimension, k);
        if (node == null || mark < 0 || mark >= marks.size() || node.numbers[mark] == null) {
            return -2000000000;
        }
        return node.numbers[mark];
    }

    int count(int what) {
        int members = trees.stream().mapToInt(List::size).sum();
        int sets = (int) Arrays.stream(kept).filter(Objects::nonNull).count();
        List<Integer> counts = List.of(trees.size(), marks.size(), members, setTuples.size(), setDimensions.size(),
                sets, sheet.length());
        return what < 0 || what > 6 ? -1 : counts.get(what);
    }
}
