import java.util.Arrays;

/** A machine for a small language with effects and handlers. */
public final class EffectMachine {

    public static final int BAD = -1, STATE = -2, FULL = -3, NONE = -9;

    private static final int TEXT_LIMIT = 120;
    private static final int NUMBER_DIGITS = 3;
    private static final int OPERATIONS = 6;
    private static final int LEVELS = 4;
    private static final int PROCEDURES = 4;
    private static final int IMAGES = 2;
    private static final int RUN_LIMIT = 200;
    private static final int STEP_LIMIT = 1000;
    private static final int FRAME_LIMIT = 100;
    private static final int TRACE_LIMIT = 60;

    /** Far above the rounds that any loop without a limit of the document needs. */
    private static final int MANY = 1000000;

    private static final int BLANK = ' ';

    /** The signs of the two expressions that no sign begins. */
    private static final int NUMBER = '0', VARIABLE = 'a';

    /** The place of the return clause, behind those of the operations. */
    private static final int RETURN = OPERATIONS, CLAUSES = OPERATIONS + 1;

    /** The variable that is bound in a procedure. */
    private static final int PARAMETER = 'x' - 'a';

    /** The states of a run. */
    private static final int UNLOADED = 0, GOING = 1, ENDED = 2, OPEN = 3, TOO_DEEP = 4, OUT_OF_STEPS = 5;

    /** The kinds of frames. */
    private static final int LEFT = 1, RIGHT = 2, TEST = 3, BEFORE = 4, BIND = 5, EMIT = 6, PERFORM = 7,
            MASK = 8, FINALIZER = 9, CALL = 10, RESUME = 11, HANDLER = 12, AFTER = 13, CLAUSE = 14;

    private final int[] text = new int[TEXT_LIMIT];
    private int length = 0;
    private final Reader reader = new Reader();
    private final Lister lister = new Lister();
    private final Run now = new Run();

    /** An image is null as long as it keeps nothing. */
    private final Run[] images = new Run[IMAGES];

    public EffectMachine() {
    }

    // ---- texts and expressions

    public int write(int code) {
        if (code < 32 || code > 126) {
            return BAD;
        }
        if (length >= TEXT_LIMIT) {
            return FULL;
        }
        text[length] = code;
        length++;
        return length;
    }

    public int wipe() {
        int had = length;
        length = 0;
        return had;
    }

    public int fault(int how) {
        if (how != 0 && how != 1) {
            return BAD;
        }
        return reader.read(text, length, how == 1);
    }

    public int load() {
        if (reader.read(text, length, false) != NONE) {
            return STATE;
        }
        Body body = reader.body();
        body.listed = lister.list(body.root);
        now.main = body;
        now.begin();
        return body.all.length;
    }

    public int define(int p) {
        if (!isProcedure(p)) {
            return BAD;
        }
        if (reader.read(text, length, true) != NONE) {
            return STATE;
        }
        now.bodies[p] = reader.body();
        return now.bodies[p].all.length;
    }

    public int undefine(int p) {
        if (!isProcedure(p)) {
            return BAD;
        }
        int was = now.bodies[p] == null ? 0 : 1;
        now.bodies[p] = null;
        return was;
    }

    public int restart() {
        if (now.state == UNLOADED) {
            return STATE;
        }
        int was = now.state;
        now.begin();
        return was;
    }

    public int listing(int k) {
        if (k < 0) {
            return BAD;
        }
        if (now.main == null) {
            return STATE;
        }
        return k < now.main.listed.length ? now.main.listed[k] : NONE;
    }

    public int may(int p, int a, int level) {
        if (p != -1 && !isProcedure(p) || !isOperation(a) || level < 0 || level >= LEVELS) {
            return BAD;
        }
        Body body = p == -1 ? now.main : now.bodies[p];
        if (body == null) {
            return STATE;
        }
        now.gatherLeaves();
        return (body.root.leaves & Expr.pair(a, level)) != 0 ? 1 : 0;
    }

    // ---- runs

    public int run(int n) {
        if (n < 1 || n > RUN_LIMIT) {
            return BAD;
        }
        if (now.state != GOING) {
            return STATE;
        }
        for (int made = 0; made < n && now.state == GOING; made++) {
            now.step();
        }
        return now.state;
    }

    public int answer(int v) {
        if (now.state != OPEN) {
            return STATE;
        }
        now.goOnWith(v);
        return now.stack.depth;
    }

    public int drop(int v) {
        if (now.state != OPEN) {
            return STATE;
        }
        int captured = now.stack.depth;
        now.captureDownTo(0);
        now.goOnWith(v);
        return captured;
    }

    // ---- what is told of the run

    public int told(int what) {
        switch (what) {
            case 0: return now.state;
            case 1: return now.steps;
            case 2: return now.stack.depth;
            case 3: return now.stack.deepest;
            case 4: return now.traced;
            case 5: return now.countPerformed();
            case 6: return now.ledger.resumptions;
            case 7: return now.ledger.uses;
            case 8: return now.ledger.usedAgain;
            case 9: return now.ledger.executions;
            case 10: return now.state == OPEN ? now.operation : NONE;
            case 11: return length;
            case 12: return now.countDefined();
            default: return BAD;
        }
    }

    public int value() {
        boolean hasValue = now.state == ENDED || now.state == OPEN || now.state == GOING && now.focused == null;
        return hasValue ? now.held : 0;
    }

    public int focus() {
        if (now.state != GOING) {
            return 0;
        }
        return now.focused == null ? 1 : 2;
    }

    public int trace(int k) {
        if (k < 0) {
            return BAD;
        }
        return k < now.traced ? now.values[k] : NONE;
    }

    public int performed(int a) {
        if (!isOperation(a)) {
            return BAD;
        }
        return now.performs[a];
    }

    public int frame(int k, int what) {
        Frame told = now.stack.below(k);
        if (told == null || what != 0 && what != 1) {
            return BAD;
        }
        return what == 0 ? told.kind : now.propertyOf(told);
    }

    public int handler(int a) {
        if (!isOperation(a)) {
            return BAD;
        }
        int place = now.stack.placeOfHandler(a);
        return place < 0 ? NONE : now.stack.depth - 1 - place;
    }

    // ---- images

    public int keep(int i) {
        if (!isImage(i)) {
            return BAD;
        }
        if (images[i] == null) {
            images[i] = new Run();
        }
        images[i].copyFrom(now);
        return now.state;
    }

    public int back(int i) {
        if (!isImage(i)) {
            return BAD;
        }
        if (images[i] == null) {
            return STATE;
        }
        now.copyFrom(images[i]);
        return now.state;
    }

    // ---- ranges

    private static boolean isOperation(int a) {
        return a >= 0 && a < OPERATIONS;
    }

    private static boolean isProcedure(int p) {
        return p >= 0 && p < PROCEDURES;
    }

    private static boolean isImage(int i) {
        return i >= 0 && i < IMAGES;
    }

    private static boolean isDigit(int code) {
        return code >= '0' && code <= '9';
    }

    private static boolean isLetter(int code) {
        return code >= 'a' && code <= 'z';
    }

    /** An expression; once it has been read, only its notes for may() change. */
    private static final class Expr {
        /** The byte that begins it, or NUMBER, or VARIABLE. */
        final int sign;
        /** The number, the variable, the operation or the procedure that it names. */
        int mark;
        Expr first;
        Expr second;
        Expr third;
        /** Of a handler: what its clauses execute, and their variables. */
        Expr[] clauses;
        int[] variables;
        /** Of @: the handler to which the clause around it belongs. */
        Expr owner;
        /** Sets of pairs; each may() finds them anew, as procedures come and go. */
        int leaves;
        int late;

        Expr(int sign) {
            this.sign = sign;
            if (sign == '{') {
                clauses = new Expr[CLAUSES];
                variables = new int[CLAUSES];
            }
        }

        /** How many expressions stand in it, those of clauses aside. */
        int parts() {
            switch (sign) {
                case NUMBER:
                case VARIABLE:
                    return 0;
                case '?':
                    return 3;
                case '+':
                case '-':
                case '*':
                case '<':
                case ';':
                case '=':
                case '%':
                    return 2;
                default:
                    return 1;
            }
        }

        /** The kind of the frame that is pushed for it. */
        int kindOfFrame() {
            switch (sign) {
                case '?': return TEST;
                case ';': return BEFORE;
                case '=': return BIND;
                case '!': return EMIT;
                case '^': return PERFORM;
                case '~': return MASK;
                case '%': return FINALIZER;
                case '&': return CALL;
                case '@': return RESUME;
                case '{': return HANDLER;
                default: return LEFT;
            }
        }

        /** What the clause for an operation, or for RETURN, executes; null if there is none. */
        Expr clause(int which) {
            return clauses != null && which >= 0 && which < clauses.length ? clauses[which] : null;
        }

        int clauseVariable(int which) {
            return variables != null && which >= 0 && which < variables.length ? variables[which] : 0;
        }

        int countOperationClauses() {
            int count = 0;
            for (int a = 0; a < OPERATIONS; a++) {
                if (clause(a) != null) {
                    count++;
                }
            }
            return count;
        }

        /** The set that holds one operation with one level alone. */
        static int pair(int operation, int level) {
            return 1 << (operation * LEVELS + level);
        }

        /** The set of one operation with all its levels. */
        static int allLevels(int operation) {
            return 15 << (operation * LEVELS);
        }

        static int leavesOf(Expr part) {
            return part == null ? 0 : part.leaves;
        }

        static int lateOf(Expr part) {
            return part == null ? 0 : part.late;
        }

        /** A set where the level of an operation is greater by 1. */
        static int raised(int set, int operation) {
            int mine = set & allLevels(operation);
            int stays = mine & pair(operation, LEVELS - 1);
            return set & ~mine | (mine << 1 | stays) & allLevels(operation);
        }

        /** What a handler with a clause for an operation lets through. */
        static int lowered(int set, int operation) {
            int mine = set & allLevels(operation);
            int stays = mine & pair(operation, LEVELS - 1);
            return set & ~mine | mine >> 1 & allLevels(operation) | stays;
        }

        /** Takes over what is known of its parts so far; tells whether anything is new. */
        boolean gather(Body[] bodies) {
            int nextLeaves = leavesOf(first) | leavesOf(second) | leavesOf(third);
            int nextLate = lateOf(first) | lateOf(second) | lateOf(third);
            switch (sign) {
                case '^':
                    nextLeaves |= pair(mark, 0);
                    break;
                case '~':
                    nextLeaves = raised(nextLeaves, mark);
                    break;
                case '%':
                    nextLate |= leavesOf(second);
                    break;
                case '&':
                    Expr called = isProcedure(mark) && bodies[mark] != null ? bodies[mark].root : null;
                    nextLeaves |= leavesOf(called);
                    nextLate |= lateOf(called);
                    break;
                case '@':
                    nextLeaves |= leavesOf(owner);
                    nextLate |= lateOf(owner);
                    break;
                case '{':
                    nextLeaves = leavesOfHandler();
                    nextLate |= lateOfClauses();
                    break;
                default:
                    break;
            }
            boolean isNew = nextLeaves != leaves || nextLate != late;
            leaves = nextLeaves;
            late = nextLate;
            return isNew;
        }

        private int leavesOfHandler() {
            int through = leavesOf(first);
            for (int a = 0; a < OPERATIONS; a++) {
                if (clause(a) != null) {
                    through = lowered(through, a);
                }
            }
            int set = through | lateOf(first);
            for (int which = 0; which < CLAUSES; which++) {
                set |= leavesOf(clause(which));
            }
            return set;
        }

        private int lateOfClauses() {
            int set = 0;
            for (int which = 0; which < CLAUSES; which++) {
                set |= lateOf(clause(which));
            }
            return set;
        }
    }

    /** The main expression or the body of a procedure, with all expressions in it. */
    private static final class Body {
        final Expr root;
        /** Every expression stands behind the one that it is a part of. */
        final Expr[] all;
        /** The bytes of the listing; only the main expression has one. */
        int[] listed = new int[0];

        Body(Expr root, Expr[] all) {
            this.root = root;
            this.all = all;
        }

        void forgetLeaves() {
            for (Expr each : all) {
                each.leaves = 0;
                each.late = 0;
            }
        }

        /** Parts come before the whole, so that most of it is known after one round. */
        boolean gatherRound(Body[] bodies) {
            boolean isNew = false;
            for (int i = all.length - 1; i >= 0; i--) {
                if (all[i].gather(bodies)) {
                    isNew = true;
                }
            }
            return isNew;
        }
    }

    /** Reads a text byte by byte; what is still open stands on a stack, as texts nest deeply. */
    private static final class Reader {
        /** What the next byte must belong to. */
        private static final int AN_EXPRESSION = 0, A_VARIABLE = 1, AN_OPERATION = 2, A_PROCEDURE = 3,
                A_CLAUSE = 4, NOTHING = 5;

        private final Expr[] all = new Expr[TEXT_LIMIT];
        private int count;
        private int awaited;
        /** The digits of the number that ended at the byte before, 0 if none did. */
        private int digits;

        /** Place 0 stands for the text itself. */
        private final Expr[] open = new Expr[TEXT_LIMIT + 1];
        private final int[] partsRead = new int[TEXT_LIMIT + 1];
        private final int[] clauseRead = new int[TEXT_LIMIT + 1];
        /** For the part that is being read: a bit for each bound variable, and the owner of an @. */
        private final int[] bound = new int[TEXT_LIMIT + 1];
        private final Expr[] owners = new Expr[TEXT_LIMIT + 1];
        private int depth;

        /** The fault of the text, or NONE. */
        int read(int[] text, int length, boolean asBody) {
            count = 0;
            depth = 0;
            digits = 0;
            awaited = AN_EXPRESSION;
            bound[0] = asBody ? 1 << PARAMETER : 0;
            for (int at = 0; at < length && at < text.length; at++) {
                int code = text[at];
                if (code == BLANK) {
                    digits = 0;
                } else if (isDigit(code) && digits > 0 && digits < NUMBER_DIGITS) {
                    addDigit(code);
                } else if (!accept(code)) {
                    return at;
                }
            }
            return awaited == NOTHING ? NONE : length;
        }

        /** What was read, if it had no fault. */
        Body body() {
            Expr[] own = new Expr[count];
            for (int i = 0; i < count; i++) {
                own[i] = all[i];
            }
            return new Body(all[0], own);
        }

        /** The number is the last expression that was begun. */
        private void addDigit(int code) {
            if (count > 0) {
                all[count - 1].mark = all[count - 1].mark * 10 + (code - '0');
            }
            digits++;
        }

        private boolean accept(int code) {
            digits = 0;
            switch (awaited) {
                case AN_EXPRESSION: return acceptExpression(code);
                case A_VARIABLE: return acceptVariable(code);
                case AN_OPERATION: return acceptMark(code, 'A', OPERATIONS);
                case A_PROCEDURE: return acceptMark(code, '0', PROCEDURES);
                case A_CLAUSE: return acceptClause(code);
                default: return false;
            }
        }

        private boolean acceptExpression(int code) {
            if (isDigit(code)) {
                digits = 1;
                return addLeaf(NUMBER, code - '0');
            }
            if (isLetter(code)) {
                int variable = code - 'a';
                return (bound[depth] >> variable & 1) != 0 && addLeaf(VARIABLE, variable);
            }
            switch (code) {
                case '+': case '-': case '*': case '<': case '?': case ';': case '!': case '%': case '{':
                    return beginExpression(code, AN_EXPRESSION);
                case '=':
                    return beginExpression(code, A_VARIABLE);
                case '^': case '~':
                    return beginExpression(code, AN_OPERATION);
                case '&':
                    return beginExpression(code, A_PROCEDURE);
                case '@':
                    return owners[depth] != null && beginExpression(code, AN_EXPRESSION);
                default:
                    return false;
            }
        }

        private boolean addLeaf(int sign, int mark) {
            Expr leaf = addExpression(sign);
            if (leaf == null) {
                return false;
            }
            leaf.mark = mark;
            endPart();
            return true;
        }

        private boolean beginExpression(int sign, int next) {
            Expr begun = depth + 1 < open.length ? addExpression(sign) : null;
            if (begun == null) {
                return false;
            }
            if (sign == '@') {
                begun.owner = owners[depth];
            }
            depth++;
            open[depth] = begun;
            partsRead[depth] = 0;
            bound[depth] = bound[depth - 1];
            owners[depth] = owners[depth - 1];
            awaited = next;
            return true;
        }

        /** Null if there is no room, which no text of the allowed length leads to. */
        private Expr addExpression(int sign) {
            if (count >= all.length) {
                return null;
            }
            Expr added = new Expr(sign);
            all[count] = added;
            count++;
            if (depth > 0) {
                attach(open[depth], added);
            }
            return added;
        }

        private void attach(Expr whole, Expr part) {
            switch (partsRead[depth]) {
                case 0:
                    whole.first = part;
                    break;
                case 1:
                    if (whole.clauses == null) {
                        whole.second = part;
                    } else {
                        whole.clauses[clauseRead[depth]] = part;
                    }
                    break;
                default:
                    whole.third = part;
                    break;
            }
        }

        /** A part has been read to its end, and with it perhaps what it is the last part of. */
        private void endPart() {
            for (; depth > 0; depth--) {
                Expr whole = open[depth];
                if (whole.sign == '{') {
                    partsRead[depth] = 1;
                    awaited = A_CLAUSE;
                    return;
                }
                partsRead[depth]++;
                if (partsRead[depth] < whole.parts()) {
                    if (whole.sign == '=') {
                        bound[depth] = bound[depth - 1] | 1 << whole.mark;
                    }
                    awaited = AN_EXPRESSION;
                    return;
                }
            }
            awaited = NOTHING;
        }

        /** The variable of = or of a clause. */
        private boolean acceptVariable(int code) {
            if (!isLetter(code) || depth < 1) {
                return false;
            }
            int variable = code - 'a';
            Expr whole = open[depth];
            if (whole.variables == null) {
                whole.mark = variable;
            } else {
                whole.variables[clauseRead[depth]] = variable;
                bound[depth] = bound[depth - 1] | 1 << variable;
            }
            awaited = AN_EXPRESSION;
            return true;
        }

        private boolean acceptMark(int code, int least, int size) {
            if (code < least || code >= least + size || depth < 1) {
                return false;
            }
            open[depth].mark = code - least;
            awaited = AN_EXPRESSION;
            return true;
        }

        private boolean acceptClause(int code) {
            if (depth < 1) {
                return false;
            }
            if (code == '}') {
                depth--;
                endPart();
                return true;
            }
            int which = code == ':' ? RETURN : code - 'A';
            if (code != ':' && !isOperation(which) || open[depth].clause(which) != null) {
                return false;
            }
            clauseRead[depth] = which;
            owners[depth] = which == RETURN ? owners[depth - 1] : open[depth];
            awaited = A_VARIABLE;
            return true;
        }
    }

    /** Writes an expression; what is still to be written stands on a stack, as texts nest deeply. */
    private static final class Lister {
        /** A text becomes longer only by a blank behind a number with three digits. */
        private static final int ROOM = 2 * TEXT_LIMIT;

        private final int[] bytes = new int[ROOM];
        private int length;
        private boolean afterNumber;

        /** A place where the expression is null stands for its byte. */
        private final Expr[] laterExprs = new Expr[ROOM];
        private final int[] laterBytes = new int[ROOM];
        private int later;

        int[] list(Expr root) {
            length = 0;
            later = 0;
            afterNumber = false;
            plan(root, 0);
            for (int round = 0; round < MANY && later > 0; round++) {
                later--;
                Expr next = laterExprs[later];
                if (next == null) {
                    put(laterBytes[later]);
                } else {
                    putHead(next);
                    planParts(next);
                }
            }
            return Arrays.copyOf(bytes, length);
        }

        private void plan(Expr expr, int code) {
            if (later < ROOM) {
                laterExprs[later] = expr;
                laterBytes[later] = code;
                later++;
            }
        }

        /** What is planned last is written first. */
        private void planParts(Expr expr) {
            if (expr.clauses != null) {
                plan(null, '}');
                for (int which = RETURN; which >= 0; which--) {
                    planClause(expr, which);
                }
            }
            planPart(expr.third);
            planPart(expr.second);
            planPart(expr.first);
        }

        private void planClause(Expr handler, int which) {
            if (handler.clause(which) != null) {
                plan(handler.clause(which), 0);
                plan(null, 'a' + handler.clauseVariable(which));
                plan(null, which == RETURN ? ':' : 'A' + which);
            }
        }

        private void planPart(Expr part) {
            if (part != null) {
                plan(part, 0);
            }
        }

        private void putHead(Expr expr) {
            switch (expr.sign) {
                case NUMBER:
                    putNumber(expr.mark);
                    break;
                case VARIABLE:
                    put('a' + expr.mark);
                    break;
                case '=':
                    put('=');
                    put('a' + expr.mark);
                    break;
                case '^':
                case '~':
                    put(expr.sign);
                    put('A' + expr.mark);
                    break;
                case '&':
                    put('&');
                    put('0' + expr.mark);
                    break;
                default:
                    put(expr.sign);
                    break;
            }
        }

        private void putNumber(int number) {
            if (afterNumber) {
                put(BLANK);
            }
            if (number >= 100) {
                put('0' + number / 100);
            }
            if (number >= 10) {
                put('0' + number / 10 % 10);
            }
            put('0' + number % 10);
            afterNumber = true;
        }

        private void put(int code) {
            afterNumber = false;
            if (length < ROOM) {
                bytes[length] = code;
                length++;
            }
        }
    }

    /** A bound variable and those around it; null stands for none. Never changes. */
    private static final class Scope {
        final int variable;
        final int value;
        /** The resumption to which an @ here belongs. */
        final Resumption resumption;
        final Scope around;

        Scope(int variable, int value, Resumption resumption, Scope around) {
            this.variable = variable;
            this.value = value;
            this.resumption = resumption;
            this.around = around;
        }

        /** A text binds what it uses, so that 0 is never seen for want of a binding. */
        static int lookUp(Scope innermost, int variable) {
            for (Scope each = innermost; each != null; each = each.around) {
                if (each.variable == variable) {
                    return each.value;
                }
            }
            return 0;
        }

        static Resumption resumptionIn(Scope innermost) {
            return innermost == null ? null : innermost.resumption;
        }
    }

    /** A frame; it never changes, so that resumptions and images can share it. */
    private static final class Frame {
        final int kind;
        /** The expression that it waits for, and the variables there; null for after and clause. */
        final Expr of;
        final Scope scope;
        /** The remembered value, or the number of the finalizer in the ledger. */
        final int value;
        /** Of resume and clause. */
        final Resumption resumption;

        Frame(int kind, Expr of, Scope scope, int value, Resumption resumption) {
            this.kind = kind;
            this.of = of;
            this.scope = scope;
            this.value = value;
            this.resumption = resumption;
        }
    }

    /** What a resumption has captured; how often it was used stands in the ledger. */
    private static final class Resumption {
        final int number;
        /** The one that was on top is the last. */
        final Frame[] captured;

        Resumption(int number, Frame[] captured) {
            this.number = number;
            this.captured = captured;
        }
    }

    /** The stack of frames. */
    private static final class Stack {
        final Frame[] frames = new Frame[FRAME_LIMIT];
        int depth;
        int deepest;

        void clear() {
            depth = 0;
            deepest = 0;
        }

        void copyFrom(Stack other) {
            for (int i = 0; i < other.depth; i++) {
                frames[i] = other.frames[i];
            }
            depth = other.depth;
            deepest = other.deepest;
        }

        boolean hasRoomFor(int more) {
            return depth + more <= FRAME_LIMIT;
        }

        void push(Frame pushed) {
            if (depth < frames.length) {
                frames[depth] = pushed;
                depth++;
                deepest = Math.max(deepest, depth);
            }
        }

        void pop() {
            if (depth > 0) {
                depth--;
            }
        }

        /** The frame with an index, 0 for the one on top; null if there is none. */
        Frame below(int index) {
            return index >= 0 && index < depth ? frames[depth - 1 - index] : null;
        }

        /** Pops all frames from the one on top to that at a place, and hands them out. */
        Frame[] popDownTo(int place) {
            Frame[] popped = new Frame[Math.max(0, depth - place)];
            for (int i = 0; i < popped.length; i++) {
                popped[i] = frames[place + i];
            }
            depth -= popped.length;
            return popped;
        }

        /** The place, from the bottom, of the frame that would handle an operation; -1 if none would. */
        int placeOfHandler(int operation) {
            int masks = 0;
            for (int place = depth - 1; place >= 0; place--) {
                Frame each = frames[place];
                if (each.kind == MASK && each.of.mark == operation) {
                    masks++;
                } else if (each.kind == HANDLER && each.of.clause(operation) != null) {
                    if (masks == 0) {
                        return place;
                    }
                    masks--;
                }
            }
            return -1;
        }
    }

    /**
     * What changes of resumptions and finalizers. Each is made in a step of its own (or by a drop
     * behind such a step), so that there are never more than steps.
     */
    private static final class Ledger {
        private final int[] used = new int[STEP_LIMIT];
        int resumptions;
        int uses;
        int usedAgain;
        private final int[] executed = new int[STEP_LIMIT];
        private int finalizers;
        int executions;

        void clear() {
            resumptions = 0;
            uses = 0;
            usedAgain = 0;
            finalizers = 0;
            executions = 0;
        }

        void copyFrom(Ledger other) {
            System.arraycopy(other.used, 0, used, 0, Math.min(other.resumptions, STEP_LIMIT));
            System.arraycopy(other.executed, 0, executed, 0, Math.min(other.finalizers, STEP_LIMIT));
            resumptions = other.resumptions;
            uses = other.uses;
            usedAgain = other.usedAgain;
            finalizers = other.finalizers;
            executions = other.executions;
        }

        private static boolean isPlace(int number) {
            return number >= 0 && number < STEP_LIMIT;
        }

        Resumption newResumption(Frame[] captured) {
            Resumption made = new Resumption(resumptions, captured);
            if (isPlace(resumptions)) {
                used[resumptions] = 0;
            }
            resumptions++;
            return made;
        }

        void use(Resumption resumption) {
            uses++;
            if (isPlace(resumption.number)) {
                used[resumption.number]++;
                if (used[resumption.number] == 2) {
                    usedAgain++;
                }
            }
        }

        int usesOf(Resumption resumption) {
            return resumption != null && isPlace(resumption.number) ? used[resumption.number] : 0;
        }

        /** The number of a new finalizer. */
        int newFinalizer() {
            int number = finalizers;
            if (isPlace(number)) {
                executed[number] = 0;
            }
            finalizers++;
            return number;
        }

        void execute(int finalizer) {
            executions++;
            if (isPlace(finalizer)) {
                executed[finalizer] = 1;
            }
        }

        int executed(int finalizer) {
            return isPlace(finalizer) ? executed[finalizer] : 0;
        }
    }

    /**
     * Looks for the first finalizer pending for a resumption. Resumptions capture the clauses of
     * others in long chains and on several ways, so the search has a stack and visits each once.
     */
    private static final class PendingSearch {
        private final Resumption[] path = new Resumption[STEP_LIMIT];
        /** The frames of each resumption on the path that are still to be looked at. */
        private final int[] left = new int[STEP_LIMIT];
        private int depth;
        /** The search in which a resumption was visited last. */
        private final int[] visited = new int[STEP_LIMIT];
        private int searches;

        /** The frame of the finalizer; null if none is pending. */
        Frame first(Resumption resumption, Ledger ledger) {
            searches++;
            depth = 0;
            visit(resumption, ledger);
            for (int round = 0; round < MANY && depth > 0; round++) {
                int top = depth - 1;
                if (left[top] == 0) {
                    depth--;
                    continue;
                }
                left[top]--;
                Frame next = path[top].captured[left[top]];
                if (next.kind == FINALIZER && ledger.executed(next.value) == 0) {
                    return next;
                }
                if (next.kind == CLAUSE) {
                    visit(next.resumption, ledger);
                }
            }
            return null;
        }

        private void visit(Resumption resumption, Ledger ledger) {
            if (resumption == null || ledger.usesOf(resumption) > 0) {
                return;
            }
            int number = resumption.number;
            if (depth >= path.length || !Ledger.isPlace(number) || visited[number] == searches) {
                return;
            }
            visited[number] = searches;
            path[depth] = resumption;
            left[depth] = resumption.captured.length;
            depth++;
        }
    }

    /** All that an image keeps: the main expression, the procedures and the run. */
    private static final class Run {
        Body main;
        final Body[] bodies = new Body[PROCEDURES];

        int state = UNLOADED;
        int steps;
        /** The expression in the focus, with its variables; null if the focus is a value. */
        Expr focused;
        Scope scope;
        /** The value in the focus, or the argument of the operation with which the run is open. */
        int held;
        int operation;
        final Stack stack = new Stack();
        final Ledger ledger = new Ledger();
        final int[] values = new int[TRACE_LIMIT];
        int traced;
        final int[] performs = new int[OPERATIONS];
        private final PendingSearch search = new PendingSearch();

        void copyFrom(Run other) {
            main = other.main;
            for (int p = 0; p < PROCEDURES; p++) {
                bodies[p] = other.bodies[p];
            }
            state = other.state;
            steps = other.steps;
            focused = other.focused;
            scope = other.scope;
            held = other.held;
            operation = other.operation;
            stack.copyFrom(other.stack);
            ledger.copyFrom(other.ledger);
            System.arraycopy(other.values, 0, values, 0, TRACE_LIMIT);
            traced = other.traced;
            System.arraycopy(other.performs, 0, performs, 0, OPERATIONS);
        }

        /** Begins the run of the main expression. */
        void begin() {
            if (main == null) {
                return;
            }
            state = GOING;
            steps = 0;
            goTo(main.root, null);
            held = 0;
            stack.clear();
            ledger.clear();
            traced = 0;
            Arrays.fill(performs, 0);
        }

        int countPerformed() {
            int count = 0;
            for (int a = 0; a < OPERATIONS; a++) {
                count += performs[a];
            }
            return count;
        }

        int countDefined() {
            int count = 0;
            for (int p = 0; p < PROCEDURES; p++) {
                if (bodies[p] != null) {
                    count++;
                }
            }
            return count;
        }

        /** What a frame shows beside its kind. */
        int propertyOf(Frame told) {
            switch (told.kind) {
                case PERFORM:
                case MASK:
                case CALL:
                    return told.of.mark;
                case RIGHT:
                case AFTER:
                    return told.value;
                case HANDLER:
                    return told.of.countOperationClauses();
                case RESUME:
                case CLAUSE:
                    return ledger.usesOf(told.resumption);
                case FINALIZER:
                    return ledger.executed(told.value);
                default:
                    return NONE;
            }
        }

        /** Finds what each expression and procedure may leave, from nothing on until nothing is new. */
        void gatherLeaves() {
            if (main != null) {
                main.forgetLeaves();
            }
            for (int p = 0; p < PROCEDURES; p++) {
                if (bodies[p] != null) {
                    bodies[p].forgetLeaves();
                }
            }
            boolean isNew = true;
            for (int round = 0; round < MANY && isNew; round++) {
                isNew = main != null && main.gatherRound(bodies);
                for (int p = 0; p < PROCEDURES; p++) {
                    if (bodies[p] != null && bodies[p].gatherRound(bodies)) {
                        isNew = true;
                    }
                }
            }
        }

        void step() {
            boolean made = focused != null ? stepInto(focused) : stepOut(stack.below(0));
            if (!made) {
                state = TOO_DEEP;
                return;
            }
            steps++;
            endIfDue();
        }

        private void endIfDue() {
            if (state != GOING) {
                return;
            }
            if (focused == null && stack.depth == 0) {
                state = ENDED;
            } else if (steps >= STEP_LIMIT) {
                state = OUT_OF_STEPS;
            }
        }

        /** An open run goes on with a value. */
        void goOnWith(int v) {
            focused = null;
            held = v;
            state = GOING;
            endIfDue();
        }

        /** All frames down to a place are captured; the clause of their resumption takes their place. */
        Resumption captureDownTo(int place) {
            Resumption made = ledger.newResumption(stack.popDownTo(place));
            stack.push(new Frame(CLAUSE, null, null, 0, made));
            return made;
        }

        private void goTo(Expr expr, Scope within) {
            focused = expr;
            scope = within;
        }

        /** A step from an expression; false if it would lead too deep. */
        private boolean stepInto(Expr expr) {
            if (expr.sign == NUMBER) {
                held = expr.mark;
                focused = null;
                return true;
            }
            if (expr.sign == VARIABLE) {
                held = Scope.lookUp(scope, expr.mark);
                focused = null;
                return true;
            }
            if (!stack.hasRoomFor(1)) {
                return false;
            }
            int kind = expr.kindOfFrame();
            int finalizer = kind == FINALIZER ? ledger.newFinalizer() : 0;
            Resumption resumption = kind == RESUME ? Scope.resumptionIn(scope) : null;
            stack.push(new Frame(kind, expr, scope, finalizer, resumption));
            goTo(expr.first, scope);
            return true;
        }

        /** A step from a value to the frame on top; false if it would lead too deep. */
        private boolean stepOut(Frame top) {
            if (top == null) {
                return false;
            }
            switch (top.kind) {
                case RESUME:
                    return resume(top.resumption);
                case CLAUSE:
                    return leaveClause(top);
                case AFTER:
                    stack.pop();
                    held = top.value;
                    return true;
                case PERFORM:
                    stack.pop();
                    perform(top.of.mark);
                    return true;
                default:
                    stack.pop();
                    goOnAt(top, top.of);
                    return true;
            }
        }

        /** What the frame of an expression does with the value, when it has been popped. */
        private void goOnAt(Frame top, Expr of) {
            switch (top.kind) {
                case LEFT:
                    stack.push(new Frame(RIGHT, of, top.scope, held, null));
                    goTo(of.second, top.scope);
                    break;
                case RIGHT:
                    held = resultOf(of.sign, top.value, held);
                    break;
                case TEST:
                    goTo(held != 0 ? of.second : of.third, top.scope);
                    break;
                case BEFORE:
                    goTo(of.second, top.scope);
                    break;
                case BIND:
                    goTo(of.second, new Scope(of.mark, held, Scope.resumptionIn(top.scope), top.scope));
                    break;
                case EMIT:
                    emit();
                    break;
                case FINALIZER:
                    if (ledger.executed(top.value) == 0) {
                        execute(top);
                    }
                    break;
                case CALL:
                    call(of.mark);
                    break;
                case HANDLER:
                    leaveHandler(of, top.scope);
                    break;
                default:
                    // a mask lets the value pass
                    break;
            }
        }

        private static int resultOf(int sign, int left, int right) {
            switch (sign) {
                case '+': return left + right;
                case '-': return left - right;
                case '*': return left * right;
                default: return left < right ? 1 : 0;
            }
        }

        private void emit() {
            if (traced < TRACE_LIMIT) {
                values[traced] = held;
                traced++;
            }
        }

        private void perform(int a) {
            if (isOperation(a)) {
                performs[a]++;
            }
            int place = stack.placeOfHandler(a);
            if (place < 0) {
                state = OPEN;
                operation = a;
                return;
            }
            Frame handling = stack.frames[place];
            Resumption made = captureDownTo(place);
            int variable = handling.of.clauseVariable(a);
            goTo(handling.of.clause(a), new Scope(variable, held, made, handling.scope));
        }

        private void call(int p) {
            if (isProcedure(p) && bodies[p] != null) {
                goTo(bodies[p].root, new Scope(PARAMETER, held, null, null));
            }
        }

        private void leaveHandler(Expr handling, Scope around) {
            if (handling.clause(RETURN) != null) {
                int variable = handling.clauseVariable(RETURN);
                goTo(handling.clause(RETURN), new Scope(variable, held, Scope.resumptionIn(around), around));
            }
        }

        private boolean resume(Resumption resumption) {
            if (resumption == null || !stack.hasRoomFor(resumption.captured.length - 1)) {
                return false;
            }
            stack.pop();
            ledger.use(resumption);
            for (int i = 0; i < resumption.captured.length; i++) {
                stack.push(resumption.captured[i]);
            }
            return true;
        }

        /** The frame of the clause stays as long as finalizers are pending for its resumption. */
        private boolean leaveClause(Frame top) {
            Frame pending = search.first(top.resumption, ledger);
            if (pending == null) {
                stack.pop();
                return true;
            }
            if (!stack.hasRoomFor(1)) {
                return false;
            }
            execute(pending);
            return true;
        }

        private void execute(Frame finalizer) {
            ledger.execute(finalizer.value);
            stack.push(new Frame(AFTER, null, null, held, null));
            goTo(finalizer.of.second, finalizer.scope);
        }
    }
}
