import java.util.ArrayList;
import java.util.HashMap;
import java.util.HashSet;
import java.util.List;
import java.util.Map;
import java.util.Set;
import java.util.TreeMap;

/**
 * The document once more, written from its words in another way than the program: recursion for
 * the texts, sets of words for may, and images that play the calls again. FuzzTest compares both.
 */
final class Model {
    static final int BAD = -1, STATE = -2, FULL = -3, NONE = -9;

    static final class Node {
        char sign;
        int number;
        char letter;
        char operation;
        int procedure;
        List<Node> parts = new ArrayList<>();
        TreeMap<Character, Character> clauseLetters = new TreeMap<>();
        TreeMap<Character, Node> clauseBodies = new TreeMap<>();
        Node owner;

        List<Node> inside() {
            List<Node> found = new ArrayList<>(parts);
            found.addAll(clauseBodies.values());
            return found;
        }

        int size() {
            int n = 1;
            for (Node each : inside()) {
                n += each.size();
            }
            return n;
        }
    }

    static final class Fault extends RuntimeException {
        final int at;

        Fault(int at) {
            super(null, null, false, false);
            this.at = at;
        }
    }

    static final class Finalizer {
        boolean executed;
    }

    static final class Resumption {
        List<Fr> captured;
        int used;
    }

    static final class Fr {
        int kind;
        Node node;
        Map<Character, Integer> env;
        Resumption belongs;
        int remembered;
        Finalizer finalizer;
        Resumption resumption;
    }

    interface Call {
        void on(Model m);
    }

    String text = "";
    Node main;
    Node[] procedures = new Node[4];
    int state;
    int steps, deepest, operationsDone, made, uses, reused, finalized;
    int[] performed = new int[6];
    List<Integer> trace = new ArrayList<>();
    /** The top is the first. */
    List<Fr> frames = new ArrayList<>();
    Node focus;
    Map<Character, Integer> env;
    Resumption belongs;
    int held;
    char open;
    List<Call> history = new ArrayList<>();
    List<List<Call>> images = new ArrayList<>(java.util.Arrays.asList(null, null));

    // ---- texts

    private static final class Parser {
        final String text;
        int at;

        Parser(String text) {
            this.text = text;
        }

        char peek() {
            while (at < text.length() && text.charAt(at) == ' ') {
                at++;
            }
            if (at == text.length()) {
                throw new Fault(at);
            }
            return text.charAt(at);
        }

        char take(String allowed) {
            char c = peek();
            if (allowed.indexOf(c) < 0) {
                throw new Fault(at);
            }
            at++;
            return c;
        }

        Node whole(String bound) {
            Node n = expression(bound, null);
            while (at < text.length() && text.charAt(at) == ' ') {
                at++;
            }
            if (at < text.length()) {
                throw new Fault(at);
            }
            return n;
        }

        Node expression(String bound, Node owner) {
            Node n = new Node();
            char c = take("0123456789abcdefghijklmnopqrstuvwxyz+-*<?;=!^~%&@{".replaceAll(
                    owner == null ? "@" : "#", ""));
            n.sign = c;
            if (Character.isDigit(c)) {
                n.sign = '0';
                String s = "" + c;
                while (s.length() < 3 && at < text.length() && Character.isDigit(text.charAt(at))) {
                    s += text.charAt(at++);
                }
                n.number = Integer.parseInt(s);
            } else if (Character.isLowerCase(c)) {
                n.sign = 'x';
                n.letter = c;
                if (bound.indexOf(c) < 0) {
                    throw new Fault(at - 1);
                }
            } else if (c == '=') {
                n.letter = take("abcdefghijklmnopqrstuvwxyz");
                n.parts.add(expression(bound, owner));
                n.parts.add(expression(bound + n.letter, owner));
            } else if (c == '{') {
                n.parts.add(expression(bound, owner));
                clauses(n, bound, owner);
            } else {
                if (c == '^' || c == '~') {
                    n.operation = take("ABCDEF");
                }
                if (c == '&') {
                    n.procedure = take("0123") - '0';
                }
                n.owner = c == '@' ? owner : null;
                int parts = c == '?' ? 3 : "+-*<;%".indexOf(c) >= 0 ? 2 : 1;
                for (int i = 0; i < parts; i++) {
                    n.parts.add(expression(bound, owner));
                }
            }
            return n;
        }

        void clauses(Node n, String bound, Node owner) {
            while (true) {
                String allowed = "}";
                for (char c : "ABCDEF:".toCharArray()) {
                    if (!n.clauseBodies.containsKey(c)) {
                        allowed += c;
                    }
                }
                char c = take(allowed);
                if (c == '}') {
                    return;
                }
                char x = take("abcdefghijklmnopqrstuvwxyz");
                n.clauseLetters.put(c, x);
                n.clauseBodies.put(c, null);
                n.clauseBodies.put(c, expression(bound + x, c == ':' ? owner : n));
            }
        }
    }

    int write(int code) {
        if (code < 32 || code > 126) {
            return BAD;
        }
        if (text.length() == 120) {
            return FULL;
        }
        text += (char) code;
        return text.length();
    }

    int wipe() {
        int n = text.length();
        text = "";
        return n;
    }

    int fault(int how) {
        if (how < 0 || how > 1) {
            return BAD;
        }
        try {
            new Parser(text).whole(how == 0 ? "" : "x");
            return NONE;
        } catch (Fault f) {
            return f.at;
        }
    }

    int load() {
        if (fault(0) != NONE) {
            return STATE;
        }
        String now = text;
        change(m -> {
            m.main = new Parser(now).whole("");
            m.begin();
        });
        return main.size();
    }

    int define(int p) {
        if (p < 0 || p > 3) {
            return BAD;
        }
        if (fault(1) != NONE) {
            return STATE;
        }
        String now = text;
        change(m -> m.procedures[p] = new Parser(now).whole("x"));
        return procedures[p].size();
    }

    int undefine(int p) {
        if (p < 0 || p > 3) {
            return BAD;
        }
        int was = procedures[p] != null ? 1 : 0;
        change(m -> m.procedures[p] = null);
        return was;
    }

    int restart() {
        if (state == 0) {
            return STATE;
        }
        int was = state;
        change(m -> m.begin());
        return was;
    }

    private void change(Call c) {
        history.add(c);
        c.on(this);
    }

    private void begin() {
        state = 1;
        steps = deepest = operationsDone = made = uses = reused = finalized = 0;
        performed = new int[6];
        trace = new ArrayList<>();
        frames = new ArrayList<>();
        look(main, new HashMap<>(), null);
    }

    String listed(Node n) {
        switch (n.sign) {
            case '0': return n.number + "#";
            case 'x': return "" + n.letter;
            default: break;
        }
        StringBuilder s = new StringBuilder("" + n.sign);
        s.append(n.sign == '=' ? "" + n.letter : "");
        s.append(n.sign == '^' || n.sign == '~' ? "" + n.operation : "");
        s.append(n.sign == '&' ? "" + n.procedure : "");
        for (Node part : n.parts) {
            s.append(listed(part));
        }
        if (n.sign == '{') {
            for (String c : "A B C D E F :".split(" ")) {
                if (n.clauseBodies.containsKey(c.charAt(0))) {
                    s.append(c).append(n.clauseLetters.get(c.charAt(0))).append(listed(n.clauseBodies.get(c.charAt(0))));
                }
            }
            s.append('}');
        }
        return s.toString();
    }

    int listing(int k) {
        if (k < 0) {
            return BAD;
        }
        if (state == 0) {
            return STATE;
        }
        String s = listed(main).replaceAll("#([0-9])", " $1").replace("#", "");
        return k < s.length() ? s.charAt(k) : NONE;
    }

    // ---- what may happen

    private final Map<Node, Set<String>> leaves = new HashMap<>();
    private final Map<Node, Set<String>> late = new HashMap<>();

    int may(int p, int a, int level) {
        if (p < -1 || p > 3 || a < 0 || a > 5 || level < 0 || level > 3) {
            return BAD;
        }
        Node asked = p < 0 ? main : procedures[p];
        if (asked == null) {
            return STATE;
        }
        leaves.clear();
        late.clear();
        int before = -1;
        while (before != total()) {
            before = total();
            if (main != null) {
                spread(main);
            }
            for (Node each : procedures) {
                if (each != null) {
                    spread(each);
                }
            }
        }
        return leaves(asked).contains("" + (char) ('A' + a) + level) ? 1 : 0;
    }

    private int total() {
        int n = 0;
        for (Set<String> s : leaves.values()) {
            n += s.size();
        }
        for (Set<String> s : late.values()) {
            n += s.size();
        }
        return n;
    }

    private Set<String> leaves(Node n) {
        return leaves.computeIfAbsent(n, k -> new HashSet<>());
    }

    private Set<String> late(Node n) {
        return late.computeIfAbsent(n, k -> new HashSet<>());
    }

    private void spread(Node n) {
        for (Node each : n.inside()) {
            spread(each);
            late(n).addAll(late(each));
            if (n.sign != '~' && n.sign != '{') {
                leaves(n).addAll(leaves(each));
            }
        }
        switch (n.sign) {
            case '^':
                leaves(n).add(n.operation + "0");
                break;
            case '~':
                for (String s : leaves(n.parts.get(0))) {
                    int level = s.charAt(1) - '0';
                    leaves(n).add(s.charAt(0) == n.operation ? "" + n.operation + Math.min(3, level + 1) : s);
                }
                break;
            case '%':
                late(n).addAll(leaves(n.parts.get(1)));
                break;
            case '&':
                if (procedures[n.procedure] != null) {
                    leaves(n).addAll(leaves(procedures[n.procedure]));
                    late(n).addAll(late(procedures[n.procedure]));
                }
                break;
            case '@':
                leaves(n).addAll(leaves(n.owner));
                late(n).addAll(late(n.owner));
                break;
            case '{':
                spreadHandler(n);
                break;
            default:
                break;
        }
    }

    private void spreadHandler(Node n) {
        for (Node clause : n.clauseBodies.values()) {
            leaves(n).addAll(leaves(clause));
        }
        leaves(n).addAll(late(n.parts.get(0)));
        for (String s : leaves(n.parts.get(0))) {
            char a = s.charAt(0);
            if (!n.clauseBodies.containsKey(a)) {
                leaves(n).add(s);
            } else if (s.charAt(1) == '1') {
                leaves(n).add(a + "0");
            } else if (s.charAt(1) == '2') {
                leaves(n).add(a + "1");
            } else if (s.charAt(1) == '3') {
                leaves(n).add(a + "2");
                leaves(n).add(a + "3");
            }
        }
    }

    // ---- runs

    int run(int n) {
        if (n < 1 || n > 200) {
            return BAD;
        }
        if (state != 1) {
            return STATE;
        }
        change(m -> {
            for (int i = 0; i < n && m.state == 1; i++) {
                m.step();
            }
        });
        return state;
    }

    int answer(int v) {
        if (state != 3) {
            return STATE;
        }
        change(m -> {
            m.state = 1;
            m.becomes(v);
            m.endings();
        });
        return frames.size();
    }

    int drop(int v) {
        if (state != 3) {
            return STATE;
        }
        int n = frames.size();
        change(m -> {
            Resumption r = new Resumption();
            r.captured = m.frames;
            m.made++;
            Fr clause = new Fr();
            clause.kind = 14;
            clause.resumption = r;
            m.frames = new ArrayList<>();
            m.frames.add(clause);
            m.deepest = Math.max(m.deepest, 1);
            m.state = 1;
            m.becomes(v);
            m.endings();
        });
        return n;
    }

    private void look(Node n, Map<Character, Integer> e, Resumption b) {
        focus = n;
        env = e;
        belongs = b;
    }

    private void becomes(int v) {
        focus = null;
        held = v;
    }

    private void endings() {
        if (state == 1 && focus == null && frames.isEmpty()) {
            state = 2;
        } else if (state == 1 && steps == 1000) {
            state = 5;
        }
    }

    private void step() {
        List<Fr> next = new ArrayList<>(frames);
        List<Runnable> effects = new ArrayList<>();
        if (focus != null) {
            enter(next, effects);
        } else {
            Fr top = next.remove(0);
            leave(top, held, next, effects);
        }
        if (next.size() > 100) {
            state = 4;
            return;
        }
        frames = next;
        deepest = Math.max(deepest, next.size());
        steps++;
        for (Runnable each : effects) {
            each.run();
        }
        endings();
    }

    private void enter(List<Fr> next, List<Runnable> effects) {
        Node n = focus;
        if (n.sign == '0') {
            effects.add(() -> becomes(n.number));
            return;
        }
        if (n.sign == 'x') {
            effects.add(() -> becomes(env.get(n.letter)));
            return;
        }
        Fr f = new Fr();
        f.node = n;
        f.env = env;
        f.belongs = belongs;
        f.kind = "+-*<".indexOf(n.sign) >= 0 ? 1 : "..??;=!^~%&@{".indexOf(n.sign);
        f.kind = f.kind == 2 ? 3 : f.kind;
        if (f.kind == 9) {
            f.finalizer = new Finalizer();
        }
        if (f.kind == 11) {
            f.resumption = belongs;
        }
        next.add(0, f);
        effects.add(() -> look(n.parts.get(0), env, belongs));
    }

    private void leave(Fr top, int v, List<Fr> next, List<Runnable> effects) {
        Node n = top.node;
        switch (top.kind) {
            case 1: {
                Fr f = copy(top, 2);
                f.remembered = v;
                next.add(0, f);
                effects.add(() -> look(n.parts.get(1), top.env, top.belongs));
                break;
            }
            case 2: {
                int l = top.remembered;
                effects.add(() -> becomes(n.sign == '+' ? l + v : n.sign == '-' ? l - v : n.sign == '*' ? l * v
                        : l < v ? 1 : 0));
                break;
            }
            case 3:
                effects.add(() -> look(n.parts.get(v != 0 ? 1 : 2), top.env, top.belongs));
                break;
            case 4:
                effects.add(() -> look(n.parts.get(1), top.env, top.belongs));
                break;
            case 5:
                effects.add(() -> look(n.parts.get(1), with(top.env, n.letter, v), top.belongs));
                break;
            case 6:
                effects.add(() -> {
                    if (trace.size() < 60) {
                        trace.add(v);
                    }
                });
                break;
            case 7:
                perform(n.operation, v, next, effects);
                break;
            case 9:
                if (!top.finalizer.executed) {
                    finish(top, v, next, effects);
                }
                break;
            case 10:
                if (procedures[n.procedure] != null) {
                    Node body = procedures[n.procedure];
                    effects.add(() -> look(body, with(new HashMap<>(), 'x', v), null));
                }
                break;
            case 11:
                next.addAll(0, top.resumption.captured);
                effects.add(() -> {
                    uses++;
                    top.resumption.used++;
                    reused += top.resumption.used == 2 ? 1 : 0;
                });
                break;
            case 12:
                if (n.clauseBodies.containsKey(':')) {
                    effects.add(() -> look(n.clauseBodies.get(':'), with(top.env, n.clauseLetters.get(':'), v), top.belongs));
                }
                break;
            case 13:
                effects.add(() -> becomes(top.remembered));
                break;
            case 14: {
                Fr pending = pendingFor(top.resumption, new HashSet<>());
                if (pending != null) {
                    next.add(0, top);
                    finish(pending, v, next, effects);
                }
                break;
            }
            default:
                break;
        }
    }

    private static Fr copy(Fr from, int kind) {
        Fr f = new Fr();
        f.kind = kind;
        f.node = from.node;
        f.env = from.env;
        f.belongs = from.belongs;
        return f;
    }

    private static Map<Character, Integer> with(Map<Character, Integer> env, char x, int v) {
        Map<Character, Integer> more = new HashMap<>(env);
        more.put(x, v);
        return more;
    }

    /** The first pending finalizer; what has been searched in vain need not be searched again. */
    private static Fr pendingFor(Resumption r, Set<Resumption> searched) {
        if (r.used > 0 || !searched.add(r)) {
            return null;
        }
        for (Fr f : r.captured) {
            if (f.kind == 9 && !f.finalizer.executed) {
                return f;
            }
            Fr found = f.kind == 14 ? pendingFor(f.resumption, searched) : null;
            if (found != null) {
                return found;
            }
        }
        return null;
    }

    private void finish(Fr finalizer, int v, List<Fr> next, List<Runnable> effects) {
        Fr after = new Fr();
        after.kind = 13;
        after.remembered = v;
        next.add(0, after);
        effects.add(() -> {
            finalizer.finalizer.executed = true;
            finalized++;
            look(finalizer.node.parts.get(1), finalizer.env, finalizer.belongs);
        });
    }

    private static int find(List<Fr> frames, char a) {
        int number = 0;
        for (int i = 0; i < frames.size(); i++) {
            Fr f = frames.get(i);
            if (f.kind == 8 && f.node.operation == a) {
                number++;
            }
            if (f.kind == 12 && f.node.clauseBodies.containsKey(a)) {
                if (number == 0) {
                    return i;
                }
                number--;
            }
        }
        return -1;
    }

    private void perform(char a, int v, List<Fr> next, List<Runnable> effects) {
        effects.add(() -> {
            operationsDone++;
            performed[a - 'A']++;
        });
        int at = find(next, a);
        if (at < 0) {
            effects.add(() -> {
                state = 3;
                open = a;
            });
            return;
        }
        Fr handler = next.get(at);
        Resumption r = new Resumption();
        r.captured = new ArrayList<>(next.subList(0, at + 1));
        next.subList(0, at + 1).clear();
        Fr clause = new Fr();
        clause.kind = 14;
        clause.resumption = r;
        next.add(0, clause);
        effects.add(() -> {
            made++;
            look(handler.node.clauseBodies.get(a), with(handler.env, handler.node.clauseLetters.get(a), v), r);
        });
    }

    // ---- what is told of the run

    int told(int what) {
        int defined = 0;
        for (Node each : procedures) {
            defined += each != null ? 1 : 0;
        }
        if (what < 0 || what > 12) {
            return BAD;
        }
        return new int[] {state, steps, frames.size(), deepest, trace.size(), operationsDone, made, uses, reused,
            finalized, state == 3 ? open - 'A' : NONE, text.length(), defined}[what];
    }

    int value() {
        return state == 2 || state == 3 || state == 1 && focus == null ? held : 0;
    }

    int focus() {
        return state != 1 ? 0 : focus == null ? 1 : 2;
    }

    int trace(int k) {
        return k < 0 ? BAD : k < trace.size() ? trace.get(k) : NONE;
    }

    int performed(int a) {
        return a < 0 || a > 5 ? BAD : performed[a];
    }

    int frame(int k, int what) {
        if (k < 0 || k >= frames.size() || what < 0 || what > 1) {
            return BAD;
        }
        Fr f = frames.get(k);
        if (what == 0) {
            return f.kind;
        }
        switch (f.kind) {
            case 7: case 8: return f.node.operation - 'A';
            case 10: return f.node.procedure;
            case 2: case 13: return f.remembered;
            case 12: return f.node.clauseBodies.size() - (f.node.clauseBodies.containsKey(':') ? 1 : 0);
            case 11: case 14: return f.resumption.used;
            case 9: return f.finalizer.executed ? 1 : 0;
            default: return NONE;
        }
    }

    int handler(int a) {
        if (a < 0 || a > 5) {
            return BAD;
        }
        int at = find(frames, (char) ('A' + a));
        return at < 0 ? NONE : at;
    }

    // ---- images

    int keep(int i) {
        if (i < 0 || i > 1) {
            return BAD;
        }
        images.set(i, new ArrayList<>(history));
        return state;
    }

    int back(int i) {
        if (i < 0 || i > 1) {
            return BAD;
        }
        if (images.get(i) == null) {
            return STATE;
        }
        Model again = new Model();
        for (Call each : images.get(i)) {
            again.change(each);
        }
        history = again.history;
        main = again.main;
        procedures = again.procedures;
        state = again.state;
        steps = again.steps;
        deepest = again.deepest;
        operationsDone = again.operationsDone;
        made = again.made;
        uses = again.uses;
        reused = again.reused;
        finalized = again.finalized;
        performed = again.performed;
        trace = again.trace;
        frames = again.frames;
        focus = again.focus;
        env = again.env;
        belongs = again.belongs;
        held = again.held;
        open = again.open;
        return state;
    }
}
