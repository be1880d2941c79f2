import java.util.ArrayList;
import java.util.List;

/** The document's words, one generator object for each begun element; slow and recursive. */
final class Model {
    private static final class OutOfSteps extends RuntimeException {
        private static final long serialVersionUID = 1L;
    }

    private static final class Triple {
        final int v, x, y;
        Triple(int v, int x, int y) {
            this.v = v;
            this.x = x;
            this.y = y;
        }
    }

    private static final class Outcome {
        final int end;
        final List<Triple> list;
        Outcome(int end, List<Triple> list) {
            this.end = end;
            this.list = list;
        }
    }

    /** A begun element; next() answers null when it is exhausted, and is not asked again then. */
    private interface Element {
        Outcome next();
    }

    private static final class Node {
        int kind, a, b, left = -1, right = -1;
    }

    private final int maxSubject, stepLimit, deferLimit;
    private final List<Node> nodes = new ArrayList<>();
    private final List<Integer> stack = new ArrayList<>();
    private final int[] roots = new int[4];
    private String subject = "";
    private final String[] texts = new String[8];
    private final int[] cursors = new int[8];
    private int result, start, end, steps;

    Model(int maxSubject, int stepLimit, int deferLimit) {
        this.maxSubject = Math.max(1, Math.min(16, maxSubject));
        this.stepLimit = Math.max(16, Math.min(250, stepLimit));
        this.deferLimit = Math.max(0, Math.min(8, deferLimit));
        clearAll();
    }

    void clearAll() {
        nodes.clear();
        stack.clear();
        java.util.Arrays.fill(roots, -1);
        subject = "";
        clearVars();
        result = 3;
        start = -1;
        end = -1;
    }

    void clearVars() {
        java.util.Arrays.fill(texts, "");
        java.util.Arrays.fill(cursors, -1);
    }

    void clearSubject() {
        subject = "";
    }

    int addSubjectChar(int c) {
        if (c < 0 || c > 65535) return -2;
        if (subject.length() == maxSubject) return -7;
        subject += (char) c;
        return subject.length();
    }

    private static boolean in(int x, int least, int greatest) {
        return least <= x && x <= greatest;
    }

    private static boolean good(int kind, int a, int b) {
        switch (kind) {
            case 1: return in(a, 0, 65535);
            case 4: case 5: case 6: return in(a, 0, 16);
            case 7: case 8: case 9: return 0 <= a && a <= b && b <= 65535;
            case 11: case 15: case 16: return in(a, 0, 7);
            case 12: return in(a, 0, 3);
            default: return true;
        }
    }

    int push(int kind, int a, int b) {
        if (!in(kind, 1, 18)) return -1;
        if (!good(kind, a, b)) return -2;
        boolean unary = in(kind, 13, 16);
        boolean binary = in(kind, 17, 18);
        if (unary && stack.isEmpty() || binary && stack.size() < 2) return -3;
        if (nodes.size() == 32) return -4;
        if (!unary && !binary && stack.size() == 16) return -5;
        Node node = new Node();
        node.kind = kind;
        node.a = in(kind, 2, 3) || kind == 10 || in(kind, 13, 14) || binary ? 0 : a;
        node.b = in(kind, 7, 9) ? b : 0;
        if (binary) node.right = pop();
        if (unary || binary) node.left = pop();
        nodes.add(node);
        stack.add(nodes.size() - 1);
        return nodes.size() - 1;
    }

    private int pop() {
        return stack.remove(stack.size() - 1);
    }

    int define(int v) {
        if (!in(v, 0, 3)) return -2;
        if (stack.isEmpty()) return -3;
        roots[v] = pop();
        return roots[v];
    }

    int match(int v, boolean anchored) {
        if (!in(v, 0, 3)) return -2;
        if (roots[v] < 0) return -6;
        result = 0;
        start = -1;
        end = -1;
        try {
            for (int t = 0; t <= (anchored ? 0 : subject.length()); t++) {
                steps = 0;
                Outcome outcome = begin(roots[v], t, 0).next();
                if (outcome != null) {
                    result = 1;
                    start = t;
                    end = outcome.end;
                    for (Triple triple : outcome.list) {
                        texts[triple.v] = subject.substring(triple.x, triple.y);
                    }
                    return result;
                }
            }
        } catch (OutOfSteps stop) {
            result = 2;
        }
        return result;
    }

    private Element begin(int number, int c, int d) {
        if (steps == stepLimit) throw new OutOfSteps();
        steps++;
        Node node = nodes.get(number);
        switch (node.kind) {
            case 10: return arb(c);
            case 12: return defer(node, c, d);
            case 13: return arbno(number, c, d);
            case 14: return fence(node, c, d);
            case 15: case 16: return assign(node, c, d);
            case 17: return cat(node, c, d);
            case 18: return alt(node, c, d);
            default: return leaf(node, c);
        }
    }

    private Element leaf(Node node, int c) {
        return new Element() {
            private boolean asked = false;
            public Outcome next() {
                if (asked) return null;
                asked = true;
                int e = leafEnd(node, c);
                if (e >= 0 && node.kind == 11) cursors[node.a] = c;
                return e < 0 ? null : new Outcome(e, new ArrayList<>());
            }
        };
    }

    private int leafEnd(Node node, int c) {
        int n = subject.length();
        switch (node.kind) {
            case 1: return c < n && subject.charAt(c) == node.a ? c + 1 : -1;
            case 2: case 11: return c;
            case 4: return c + node.a <= n ? c + node.a : -1;
            case 5: return c == node.a ? c : -1;
            case 6: return c == n - node.a ? c : -1;
            case 7: return c < n && in(subject.charAt(c), node.a, node.b) ? c + 1 : -1;
            case 8: {
                int e = c;
                for (int j = c; j < n && in(subject.charAt(j), node.a, node.b); j++) e = j + 1;
                return e > c ? e : -1;
            }
            case 9:
                for (int j = c; j < n; j++) if (in(subject.charAt(j), node.a, node.b)) return j;
                return -1;
            default: return -1;
        }
    }

    private Element arb(int c) {
        return new Element() {
            private int at = c;
            public Outcome next() {
                return at > subject.length() ? null : new Outcome(at++, new ArrayList<>());
            }
        };
    }

    private Element defer(Node node, int c, int d) {
        return new Element() {
            private Element root;
            public Outcome next() {
                if (d >= deferLimit || roots[node.a] < 0) return null;
                if (root == null) root = begin(roots[node.a], c, d + 1);
                return root.next();
            }
        };
    }

    private static List<Triple> joined(List<Triple> first, List<Triple> second) {
        List<Triple> both = new ArrayList<>(first);
        both.addAll(second);
        return both;
    }

    private Element arbno(int number, int c, int d) {
        return new Element() {
            private boolean producedEmpty = false;
            private Element child;
            private Outcome childOutcome;
            private Element further;
            public Outcome next() {
                if (!producedEmpty) {
                    producedEmpty = true;
                    return new Outcome(c, new ArrayList<>());
                }
                if (child == null) child = begin(nodes.get(number).left, c, d);
                while (true) {
                    if (further != null) {
                        Outcome more = further.next();
                        if (more != null) return new Outcome(more.end, joined(childOutcome.list, more.list));
                        further = null;
                    }
                    childOutcome = child.next();
                    if (childOutcome == null) return null;
                    if (childOutcome.end != c) further = begin(number, childOutcome.end, d);
                }
            }
        };
    }

    private Element fence(Node node, int c, int d) {
        return new Element() {
            private boolean asked = false;
            public Outcome next() {
                if (asked) return null;
                asked = true;
                return begin(node.left, c, d).next();
            }
        };
    }

    private Element assign(Node node, int c, int d) {
        return new Element() {
            private Element child;
            public Outcome next() {
                if (child == null) child = begin(node.left, c, d);
                Outcome p = child.next();
                if (p == null) return null;
                if (node.kind == 15) {
                    texts[node.a] = subject.substring(c, p.end);
                    return p;
                }
                return new Outcome(p.end, joined(p.list, List.of(new Triple(node.a, c, p.end))));
            }
        };
    }

    private Element cat(Node node, int c, int d) {
        return new Element() {
            private Element left;
            private Element right;
            private Outcome x;
            public Outcome next() {
                if (left == null) left = begin(node.left, c, d);
                while (true) {
                    if (right != null) {
                        Outcome y = right.next();
                        if (y != null) return new Outcome(y.end, joined(x.list, y.list));
                        right = null;
                    }
                    x = left.next();
                    if (x == null) return null;
                    right = begin(node.right, x.end, d);
                }
            }
        };
    }

    private Element alt(Node node, int c, int d) {
        return new Element() {
            private Element left;
            private Element right;
            public Outcome next() {
                if (right == null) {
                    if (left == null) left = begin(node.left, c, d);
                    Outcome x = left.next();
                    if (x != null) return x;
                    right = begin(node.right, c, d);
                }
                return right.next();
            }
        };
    }

    int stackDepth() {
        return stack.size();
    }

    /** What Check.state tells of a matcher in the same state. */
    String state() {
        StringBuilder s = new StringBuilder("results " + result + ' ' + start + ' ' + end + " -1 -1");
        s.append("\nnodes ").append(nodes.size()).append(':');
        for (int i = -1; i <= 32; i++) {
            for (int f = -1; f <= 5; f++) s.append(' ').append(field(i, f));
        }
        s.append("\nstack ").append(stack.size()).append(':');
        for (int k = -1; k <= 16; k++) s.append(' ').append(in(k, 0, stack.size() - 1) ? stack.get(k) : -1);
        s.append("\nroots");
        for (int v = -1; v <= 4; v++) s.append(' ').append(in(v, 0, 3) ? roots[v] : -1);
        s.append("\nsubject ").append(subject.length()).append(':');
        for (int i = -1; i <= 16; i++) s.append(' ').append(charOf(subject, i));
        s.append("\nvars");
        for (int v = -1; v <= 8; v++) {
            boolean known = in(v, 0, 7);
            s.append(" [").append(known ? cursors[v] : -1).append(' ');
            s.append(known ? texts[v].length() : -1).append(':');
            for (int i = -1; i <= 16; i++) s.append(' ').append(known ? charOf(texts[v], i) : 0);
            s.append(']');
        }
        return s.toString();
    }

    private static int charOf(String text, int i) {
        return in(i, 0, text.length() - 1) ? text.charAt(i) : 0;
    }

    private int field(int i, int f) {
        if (!in(i, 0, nodes.size() - 1) || !in(f, 0, 4)) return -1;
        Node node = nodes.get(i);
        int[] fields = {node.kind, node.a, node.b, node.left, node.right};
        return fields[f];
    }
}
