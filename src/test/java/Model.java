import java.util.ArrayList;
import java.util.Arrays;
import java.util.Collections;
import java.util.HashMap;
import java.util.List;
import java.util.Map;
import java.util.TreeMap;
import java.util.TreeSet;

/**
 * The document once more, in another way and slowly: a text is read by descent into trees, EDGES are
 * tried on each PART one by one, and SHAPES are read one by one. ModelTest holds ShapeJudge against it.
 */
final class Model {
    private static final class Fault extends RuntimeException {
        private static final long serialVersionUID = 1L;
        final int kind;
        final int place;

        Fault(int kind, int place) {
            super(null, null, false, false);
            this.kind = kind;
            this.place = place;
        }
    }

    private record Token(String kind, int number, int place, int behind) { }

    private record Edge(int name, int to) implements Comparable<Edge> {
        public int compareTo(Edge other) {
            return name != other.name ? Integer.compare(name, other.name) : Integer.compare(to, other.to);
        }
    }

    private static final class Tree {
        final String kind;
        final List<Tree> under = new ArrayList<>();
        int part;
        int least;
        int greatest;

        Tree(String kind) {
            this.kind = kind;
        }
    }

    private static final class Part {
        int name;
        int test;
        char word;
        int wordPlace;
        int first;
        int second;
    }

    private static final class Shape {
        char word;
        Tree tree;
        boolean closed;
        final List<Part> parts = new ArrayList<>();
    }

    private final List<Integer> values = new ArrayList<>();
    private final List<TreeSet<Edge>> edges = new ArrayList<>();
    private String tape = "";
    private List<Shape> shapes = new ArrayList<>();
    private int fault;

    int node(boolean valued, int value) {
        if (values.size() == 10) {
            return -3;
        }
        values.add(valued ? Integer.valueOf(value) : null);
        edges.add(new TreeSet<>());
        return values.size() - 1;
    }

    int value(int n, boolean valued, int value) {
        if (noNode(n)) {
            return -1;
        }
        values.set(n, valued ? Integer.valueOf(value) : null);
        return 1;
    }

    int edge(int from, int name, int to) {
        if (noNode(from) || name < 0 || name > 9 || noNode(to)) {
            return -1;
        }
        Edge edge = new Edge(name, to);
        if (edges.get(from).contains(edge)) {
            return -2;
        }
        if (edgeCount() == 40 || edges.get(from).size() == 5) {
            return -3;
        }
        edges.get(from).add(edge);
        return edgeCount();
    }

    int cut(int from, int name, int to) {
        if (noNode(from) || name < 0 || name > 9 || noNode(to)) {
            return -1;
        }
        return edges.get(from).remove(new Edge(name, to)) ? edgeCount() : -2;
    }

    int feed(int a, int b, int c, int d, int e) {
        if (tape.length() > 380) {
            return -3;
        }
        for (int number : new int[] {a, b, c, d, e}) {
            for (int shift = 24; shift >= 0; shift -= 8) {
                tape += (char) (number >> shift & 255);
            }
        }
        return tape.length();
    }

    int end(int n) {
        if (n < 0 || n > tape.length()) {
            return -1;
        }
        int had = tape.length();
        tape = tape.substring(0, n);
        return had;
    }

    int shapes() {
        List<Shape> before = shapes;
        fault = 0;
        int answer;
        try {
            new Descent().text();
            answer = shapes.size();
        } catch (Fault met) {
            shapes = before;
            fault = met.kind;
            answer = -10 - met.place;
        }
        tape = "";
        return answer;
    }

    int fault() {
        return fault;
    }

    int fits(int n, int shape) {
        return noPair(n, shape) ? -1 : fitting(shape)[n] ? 1 : 0;
    }

    int surely(int n, int shape) {
        return noPair(n, shape) ? -1 : surelyFitting()[shape][n] ? 1 : 0;
    }

    int all(int shape) {
        if (noShape(shape)) {
            return -1;
        }
        int sum = 0;
        boolean[] fitting = fitting(shape);
        for (int n = 0; n < values.size(); n++) {
            sum += fitting[n] ? 1 << n : 0;
        }
        return sum;
    }

    int wanted(int n, int shape) {
        return noPair(n, shape) ? -1 : wantedOf(n, shape).size();
    }

    int dealt(int n, int shape, int i) {
        if (noPair(n, shape) || i < 0 || i >= edges.get(n).size()) {
            return -1;
        }
        boolean[][] tables = greatest();
        if (!tables[shape][n]) {
            return -2;
        }
        List<Edge> wanted = wantedOf(n, shape);
        int place = wanted.indexOf(new ArrayList<>(edges.get(n)).get(i));
        if (place < 0) {
            return -4;
        }
        int[] dealing = new int[wanted.size()];
        firstDealing(shapes.get(shape), takers(shapes.get(shape), wanted, tables, tables), dealing, 0);
        return dealing[place];
    }

    int tooMany(int n, int shape) {
        if (noPair(n, shape)) {
            return -1;
        }
        int surplus = surplus(n, shape);
        return surplus < 0 ? -4 : Integer.bitCount(surplus);
    }

    int which(int n, int shape) {
        return noPair(n, shape) ? -1 : surplus(n, shape);
    }

    int depends(int shape, int other) {
        return noShape(shape) || noShape(other) ? -1 : behind(shape).contains(other) ? 1 : 0;
    }

    int part(int shape, int p, int what) {
        if (noShape(shape) || p < 0 || p >= shapes.get(shape).parts.size() || what < 0 || what > 3) {
            return -1;
        }
        Part part = shapes.get(shape).parts.get(p);
        int first = part.test == 1 || part.test == 2 ? indexOf(part.word) : part.first;
        return new int[] {part.name, part.test, first, part.second}[what];
    }

    int told(int shape, int what) {
        if (noShape(shape) || what < 0 || what > 2) {
            return -1;
        }
        Shape s = shapes.get(shape);
        return new int[] {s.word, s.parts.size(), s.closed ? 1 : 0}[what];
    }

    int from(int n, int i, int what) {
        if (noNode(n) || i < 0 || i >= edges.get(n).size() || what < 0 || what > 1) {
            return -1;
        }
        Edge edge = new ArrayList<>(edges.get(n)).get(i);
        return what == 0 ? edge.name : edge.to;
    }

    int reset() {
        int went = values.size();
        values.clear();
        edges.clear();
        fault = 0;
        return went;
    }

    int count(int what) {
        switch (what) {
            case 0: return values.size();
            case 1: return edgeCount();
            case 2: return shapes.size();
            case 3: return tape.length();
            case 4: return pairs(greatest());
            case 5: return pairs(surelyFitting());
            default: return -1;
        }
    }

    private int pairs(boolean[][] tables) {
        int sum = 0;
        for (boolean[] table : tables) {
            for (boolean fits : table) {
                sum += fits ? 1 : 0;
            }
        }
        return sum;
    }

    private boolean noNode(int n) {
        return n < 0 || n >= values.size();
    }

    private boolean noShape(int s) {
        return s < 0 || s >= shapes.size();
    }

    private boolean noPair(int n, int s) {
        return noNode(n) || noShape(s);
    }

    private int edgeCount() {
        return edges.stream().mapToInt(TreeSet::size).sum();
    }

    private int indexOf(char word) {
        for (int s = 0; s < shapes.size(); s++) {
            if (shapes.get(s).word == word) {
                return s;
            }
        }
        return -1;
    }

    /** All SHAPES on which one DEPENDS, by walking from WORD to WORD. */
    private TreeSet<Integer> behind(int shape) {
        TreeSet<Integer> met = new TreeSet<>();
        List<Integer> open = new ArrayList<>(List.of(shape));
        while (!open.isEmpty()) {
            for (Part part : shapes.get(open.remove(0)).parts) {
                if ((part.test == 1 || part.test == 2) && met.add(indexOf(part.word))) {
                    open.add(indexOf(part.word));
                }
            }
        }
        return met;
    }

    // ---- who fits ----

    private boolean[] fitting(int shape) {
        return fittingOf(shape, new TreeMap<>());
    }

    private boolean[][] greatest() {
        Map<Integer, boolean[]> known = new TreeMap<>();
        boolean[][] tables = new boolean[shapes.size()][];
        for (int s = 0; s < tables.length; s++) {
            tables[s] = fittingOf(s, known);
        }
        return tables;
    }

    /** The SHAPES to which ways of @ alone go are read together; those behind their !s wholly ahead. */
    private boolean[] fittingOf(int shape, Map<Integer, boolean[]> known) {
        if (known.containsKey(shape)) {
            return known.get(shape);
        }
        TreeSet<Integer> together = new TreeSet<>(List.of(shape));
        boolean grew = true;
        while (grew) {
            grew = false;
            for (int s : together.toArray(new Integer[0])) {
                for (Part part : shapes.get(s).parts) {
                    grew |= part.test == 1 && together.add(indexOf(part.word));
                }
            }
        }
        boolean[][] tables = new boolean[shapes.size()][values.size()];
        boolean[][] negative = new boolean[shapes.size()][];
        for (int s : together) {
            Arrays.fill(tables[s], true);
            for (Part part : shapes.get(s).parts) {
                if (part.test == 2) {
                    negative[indexOf(part.word)] = fittingOf(indexOf(part.word), known);
                }
            }
        }
        boolean changed = true;
        while (changed) {
            changed = false;
            boolean[][] next = new boolean[shapes.size()][];
            for (int s : together) {
                next[s] = new boolean[values.size()];
                for (int n = 0; n < values.size(); n++) {
                    next[s][n] = suits(n, s, tables, negative);
                    changed |= next[s][n] != tables[s][n];
                }
            }
            for (int s : together) {
                tables[s] = next[s];
            }
        }
        known.put(shape, tables[shape]);
        return tables[shape];
    }

    private boolean[][] surelyFitting() {
        boolean[][] negative = greatest();
        boolean[][] tables = new boolean[shapes.size()][values.size()];
        boolean changed = true;
        while (changed) {
            changed = false;
            boolean[][] next = new boolean[shapes.size()][values.size()];
            for (int s = 0; s < shapes.size(); s++) {
                for (int n = 0; n < values.size(); n++) {
                    next[s][n] = suits(n, s, tables, negative);
                    changed |= next[s][n] != tables[s][n];
                }
            }
            tables = next;
        }
        return tables;
    }

    private List<Edge> wantedOf(int n, int shape) {
        List<Edge> wanted = new ArrayList<>();
        for (Edge edge : edges.get(n)) {
            for (Part part : shapes.get(shape).parts) {
                if (part.name == edge.name) {
                    wanted.add(edge);
                    break;
                }
            }
        }
        return wanted;
    }

    private boolean suits(int n, int shape, boolean[][] positive, boolean[][] negative) {
        List<Edge> wanted = wantedOf(n, shape);
        if (shapes.get(shape).closed && wanted.size() != edges.get(n).size()) {
            return false;
        }
        return canBeDealt(shapes.get(shape), takers(shapes.get(shape), wanted, positive, negative));
    }

    /** For each EDGE the PARTS that take it. */
    private List<List<Integer>> takers(Shape shape, List<Edge> wanted, boolean[][] positive, boolean[][] negative) {
        List<List<Integer>> takers = new ArrayList<>();
        for (Edge edge : wanted) {
            List<Integer> some = new ArrayList<>();
            for (int p = 0; p < shape.parts.size(); p++) {
                if (takes(shape.parts.get(p), edge, positive, negative)) {
                    some.add(p);
                }
            }
            takers.add(some);
        }
        return takers;
    }

    /** Fills in the first dealing in the order of the dictionary, trying whole ones; false if there is none. */
    private boolean firstDealing(Shape shape, List<List<Integer>> takers, int[] dealing, int at) {
        if (at == dealing.length) {
            List<List<Integer>> bound = new ArrayList<>();
            for (int p : dealing) {
                bound.add(List.of(p));
            }
            return canBeDealt(shape, bound);
        }
        for (int p : takers.get(at)) {
            dealing[at] = p;
            if (firstDealing(shape, takers, dealing, at + 1)) {
                return true;
            }
        }
        return false;
    }

    private boolean takes(Part part, Edge edge, boolean[][] positive, boolean[][] negative) {
        if (part.name != edge.name) {
            return false;
        }
        switch (part.test) {
            case 0: return true;
            case 1: return positive[indexOf(part.word)][edge.to];
            case 2: return !negative[indexOf(part.word)][edge.to];
            default:
                Integer value = values.get(edge.to);
                return value != null && part.first <= value && value <= part.second;
        }
    }

    private boolean canBeDealt(Shape shape, List<List<Integer>> takers) {
        int whole = (1 << takers.size()) - 1;
        return shape.tree == null ? whole == 0 : parts(shape.tree, whole, takers, new HashMap<>());
    }

    /** Whether a set of EDGES can be parted as the tree wants it; what was found once is kept. */
    private boolean parts(Tree tree, int set, List<List<Integer>> takers, Map<List<Object>, Boolean> found) {
        List<Object> key = List.of(tree, set);
        Boolean known = found.get(key);
        if (known == null) {
            known = partsAnew(tree, set, takers, found);
            found.put(key, known);
        }
        return known;
    }

    private boolean partsAnew(Tree tree, int set, List<List<Integer>> takers, Map<List<Object>, Boolean> found) {
        switch (tree.kind) {
            case "edge":
                return Integer.bitCount(set) == 1
                    && takers.get(Integer.numberOfTrailingZeros(set)).contains(tree.part);
            case "any":
                for (Tree each : tree.under) {
                    if (parts(each, set, takers, found)) {
                        return true;
                    }
                }
                return false;
            case "each":
                return among(tree.under, set, takers, found);
            default:
                for (int often = tree.least; often <= tree.greatest; often++) {
                    if (among(Collections.nCopies(often, tree.under.get(0)), set, takers, found)) {
                        return true;
                    }
                }
                return false;
        }
    }

    private boolean among(List<Tree> trees, int set, List<List<Integer>> takers, Map<List<Object>, Boolean> found) {
        if (trees.isEmpty()) {
            return set == 0;
        }
        for (int here = 0; here <= set; here++) {
            if ((here & ~set) == 0 && parts(trees.get(0), here, takers, found)
                    && among(trees.subList(1, trees.size()), set - here, takers, found)) {
                return true;
            }
        }
        return false;
    }

    private int surplus(int n, int shape) {
        if (fitting(shape)[n]) {
            return 0;
        }
        TreeSet<Edge> whole = edges.get(n);
        List<Edge> inOrder = new ArrayList<>(whole);
        int best = -4;
        for (int i = inOrder.size() - 1; i >= 0; i--) {
            if (fitsWithout(n, shape, inOrder, i, i)) {
                best = 1 << i;
            }
        }
        if (best >= 0) {
            return best;
        }
        int least = Integer.MAX_VALUE;
        for (int i = 0; i < inOrder.size(); i++) {
            for (int j = i + 1; j < inOrder.size(); j++) {
                if (fitsWithout(n, shape, inOrder, i, j)) {
                    least = Math.min(least, (1 << i) + (1 << j));
                }
            }
        }
        return least == Integer.MAX_VALUE ? -4 : least;
    }

    private boolean fitsWithout(int n, int shape, List<Edge> inOrder, int i, int j) {
        TreeSet<Edge> whole = edges.get(n);
        TreeSet<Edge> thin = new TreeSet<>(whole);
        thin.remove(inOrder.get(i));
        thin.remove(inOrder.get(j));
        edges.set(n, thin);
        boolean fits = fitting(shape)[n];
        edges.set(n, whole);
        return fits;
    }

    // ---- the text ----

    private final class Descent {
        private Token token;
        private Shape shape;

        void text() {
            shapes = new ArrayList<>();
            token = read(0);
            do {
                shape();
            } while (!token.kind.equals("end"));
            for (Shape s : shapes) {
                for (Part part : s.parts) {
                    if ((part.test == 1 || part.test == 2) && indexOf(part.word) < 0) {
                        throw new Fault(6, part.wordPlace);
                    }
                }
            }
            for (int s = 0; s < shapes.size(); s++) {
                for (Part part : shapes.get(s).parts) {
                    if (part.test == 2 && (indexOf(part.word) == s || behind(indexOf(part.word)).contains(s))) {
                        throw new Fault(7, part.wordPlace);
                    }
                }
            }
        }

        private Token read(int at) {
            while (at < tape.length() && tape.charAt(at) == ' ') {
                at++;
            }
            if (at == tape.length()) {
                return new Token("end", 0, at, at);
            }
            String rest = tape.substring(at);
            for (String sign : new String[] {"closed", "...", "=", ";", ",", "|", "(", ")", "[", "]", "@", "!", "."}) {
                if (rest.startsWith(sign)) {
                    return new Token(sign, 0, at, at + sign.length());
                }
            }
            if (rest.matches("(?s)[A-Z].*")) {
                return new Token("word", rest.charAt(0), at, at + 1);
            }
            String figures = rest.replaceFirst("(?s)^(-?[0-9]*).*$", "$1");
            if (!figures.matches("-?[0-9]{1,4}")) {
                throw new Fault(1, at);
            }
            return new Token("number", Integer.parseInt(figures), at, at + figures.length());
        }

        private boolean is(String kind) {
            return token.kind.equals(kind);
        }

        private Token take(String kind) {
            if (!is(kind)) {
                throw new Fault(2, token.place);
            }
            Token taken = token;
            token = read(taken.behind);
            return taken;
        }

        private void shape() {
            if (is("word") && shapes.size() == 6) {
                throw new Fault(4, token.place);
            }
            if (is("word") && indexOf((char) token.number) >= 0) {
                throw new Fault(5, token.place);
            }
            char word = (char) token.number;
            if (is("word")) {
                shape = new Shape();
                shape.word = word;
                shapes.add(shape);
            }
            take("word");
            take("=");
            if (is("number") || is("(")) {
                shape.tree = any(0);
            }
            if (is("closed")) {
                take("closed");
                shape.closed = true;
            }
            take(";");
        }

        private Tree any(int depth) {
            Tree any = new Tree("any");
            any.under.add(each(depth));
            while (is("|")) {
                take("|");
                any.under.add(each(depth));
            }
            return any;
        }

        private Tree each(int depth) {
            Tree each = new Tree("each");
            each.under.add(item(depth));
            while (is(",")) {
                take(",");
                each.under.add(item(depth));
            }
            return each;
        }

        private Tree item(int depth) {
            Tree one = one(depth);
            if (!is("[")) {
                return one;
            }
            Tree item = new Tree("item");
            item.under.add(one);
            take("[");
            item.least = number(0, 5);
            item.greatest = number(item.least, 5);
            take("]");
            return item;
        }

        private int number(int least, int greatest) {
            if (is("number") && (token.number < least || token.number > greatest)) {
                throw new Fault(3, token.place);
            }
            return take("number").number;
        }

        private Tree one(int depth) {
            if (is("(")) {
                if (depth == 6) {
                    throw new Fault(4, token.place);
                }
                take("(");
                Tree any = any(depth + 1);
                take(")");
                return any;
            }
            if (is("number") && (token.number < 0 || token.number > 9)) {
                throw new Fault(3, token.place);
            }
            if (is("number") && shape.parts.size() == 6) {
                throw new Fault(4, token.place);
            }
            Part part = new Part();
            part.name = take("number").number;
            Tree edge = new Tree("edge");
            edge.part = shape.parts.size();
            shape.parts.add(part);
            test(part);
            return edge;
        }

        private void test(Part part) {
            if (is("@") || is("!")) {
                part.test = is("@") ? 1 : 2;
                take(token.kind);
                part.wordPlace = token.place;
                part.word = (char) take("word").number;
            } else if (is("number")) {
                part.test = 3;
                part.first = take("number").number;
                take("...");
                part.second = number(part.first, 9999);
            } else {
                take(".");
            }
        }
    }
}
