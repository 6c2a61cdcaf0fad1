/** Promises 1 to 10: texts and expressions. */
public final class TextsTest {
    private static final int BAD = Due.BAD, STATE = Due.STATE, FULL = Due.FULL, NONE = Due.NONE;

    private static void due(String what, long got, long want) {
        Due.due(what, got, want);
    }

    private static void newObject() {
        Machine m = new Machine();
        for (int what = 0; what <= 12; what++) {
            due("new told " + what, m.told(what), what == 10 ? NONE : 0);
        }
        due("new value", m.value(), 0);
        due("new focus", m.focus(), 0);
        due("new trace", m.trace(0), NONE);
        due("new frame", m.frame(0, 0), BAD);
        for (int a = 0; a < 6; a++) {
            due("new handler", m.handler(a), NONE);
            due("new performed", m.performed(a), 0);
        }
        due("new restart", m.restart(), STATE);
        due("new listing", m.listing(0), STATE);
        due("new may", m.may(-1, 0, 0), STATE);
        due("new may of a procedure", m.may(0, 0, 0), STATE);
        due("new run", m.run(1), STATE);
        due("new answer", m.answer(1), STATE);
        due("new drop", m.drop(1), STATE);
        due("new back", m.back(0), STATE);
        due("new wipe", m.wipe(), 0);
        due("new load", m.load(), STATE);
        due("new define", m.define(0), STATE);
        due("constants", EffectMachine.BAD == -1 && EffectMachine.STATE == -2 && EffectMachine.FULL == -3
                && EffectMachine.NONE == -9 ? 1 : 0, 1);
    }

    private static void write() {
        Machine m = new Machine();
        for (int bad : new int[] {31, 127, -1, 0, 10, 1000, Integer.MIN_VALUE, Integer.MAX_VALUE}) {
            due("write(" + bad + ")", m.write(bad), BAD);
        }
        due("nothing was written", m.told(11), 0);
        due("write(32)", m.write(32), 1);
        due("write(126)", m.write(126), 2);
        for (int n = 3; n <= 120; n++) {
            due("write to " + n, m.write('!'), n);
        }
        due("write when full", m.write('!'), FULL);
        due("bad write when full", m.write(127), BAD);
        due("length when full", m.told(11), 120);
        due("the bytes are there", m.fault(0), 2);
    }

    private static void wipe() {
        Machine m = Due.text(new Machine(), "+1 2");
        due("wipe", m.wipe(), 4);
        due("wipe again", m.wipe(), 0);
        due("length", m.told(11), 0);
        due("fault of nothing", m.fault(0), 0);
        due("write after wipe", m.write('7'), 1);
        due("load after wipe", m.load(), 1);
        due("wipe leaves the run", m.wipe(), 1);
        due("run", m.run(1), 2);
        due("value", m.value(), 7);
    }

    private static void faults(String text, int asMain, int asBody) {
        Machine m = Due.text(new Machine(), text);
        due("fault(0) of '" + text + "'", m.fault(0), asMain);
        due("fault(1) of '" + text + "'", m.fault(1), asBody);
        due("load of '" + text + "'", m.load() > 0 ? 1 : 0, asMain == NONE ? 1 : 0);
        due("define of '" + text + "'", m.define(3) > 0 ? 1 : 0, asBody == NONE ? 1 : 0);
        due("state", m.told(0), asMain == NONE ? 1 : 0);
        due("defined", m.told(12), asBody == NONE ? 1 : 0);
    }

    private static void faults(String text, int both) {
        faults(text, both, both);
    }

    private static void fault() {
        for (int bad : new int[] {-1, 2, Integer.MIN_VALUE, Integer.MAX_VALUE}) {
            due("fault(" + bad + ")", new Machine().fault(bad), BAD);
        }
        faults("", 0);
        faults("   ", 3);
        faults("1", NONE);
        faults(" 1 ", NONE);
        faults("123", NONE);
        faults("1234", 3);
        faults("1 2", 2);
        faults("+1234", NONE);
        faults("+12 3", NONE);
        faults("+123456", NONE);
        faults("+1234567", 7);
        faults("+12", 3);
        faults("+1", 2);
        faults("x", 0, NONE);
        faults("y", 0);
        faults("=y 1 y", NONE);
        faults("=y y 1", 3);
        faults("=x x x", 3, NONE);
        faults("=y 1 =z 2 +y z", NONE);
        faults("+=y 1 y y", 8);
        faults("=Y 1 1", 1);
        faults("= y 1 y", NONE);
        faults("=1 1", 1);
        faults("^A 1", NONE);
        faults("^ A 1", NONE);
        faults("^F1", NONE);
        faults("^G1", 1);
        faults("^a1", 1);
        faults("^", 1);
        faults("~ F 1", NONE);
        faults("~G", 1);
        faults("~@", 1);
        faults("&0 1", NONE);
        faults("&3012", NONE);
        faults("&30123", 5);
        faults("& 3 1", NONE);
        faults("&4 1", 1);
        faults("&x 1", 1);
        faults("%1 2", NONE);
        faults("%1", 2);
        faults("?1 2", 4);
        faults("?1 2 3", NONE);
        faults("?1 2 3 4", 7);
        faults(";1 2", NONE);
        faults("!1", NONE);
        faults("!", 1);
        faults("<1 2", NONE);
        faults(">1 2", 0);
        faults("-1 2", NONE);
        faults("*1 2", NONE);
        faults("/1 2", 0);
        faults("A", 0);
        faults(":", 0);
        faults("}", 0);
        faults("~", 1);
        faults("\"1", 0);
        faultsOfHandlers();
        faultsOfResumptions();
    }

    private static void faultsOfHandlers() {
        faults("{1}", NONE);
        faults("{ 1 }", NONE);
        faults("{1", 2);
        faults("{}", 1);
        faults("{1}}", 3);
        faults("{1 2}", 3);
        faults("{1A x 1}", NONE);
        faults("{1A x x}", NONE);
        faults("{1A x y}", 6);
        faults("{1A x}", 5);
        faults("{1A}", 3);
        faults("{1 A 1}", 5);
        faults("{1 G x 1}", 3);
        faults("{x A x 1}", 1, NONE);
        faults("{1 A x 1 A y 2}", 9);
        faults("{1 : x 1 : y 2}", 9);
        faults("{1 : x 1 A y y B z z F x x E x x D x x C x x}", NONE);
        faults("{1 A y 1 : z y}", 13);
        faults("{1 A y {1 A z +y z} B z z}", NONE);
        faults("=y 1 {y A z y : w y}", NONE);
        faults("{{1 A x 1} A x 1}", NONE);
        faults("{1 A x {1 A x 1 A x 1}}", 16);
        faults("{1 : x =z 1 z : x 1}", 14);
    }

    private static void faultsOfResumptions() {
        faults("@1", 0);
        faults("{@1}", 1);
        faults("{1 : x @x}", 7);
        faults("{1 A x @x}", NONE);
        faults("{1 A x @@x}", NONE);
        faults("{1 A x @}", 8);
        faults("{1 A x 1 : y @y}", 13);
        faults("{1 : y @y A x 1}", 7);
        faults("{1 A x {@1 : y @y}}", NONE);
        faults("{1 A x {1 B y @1 : y @y} : z z}", NONE);
        faults("{1 A x {1} : y @y}", 15);
        faults("{1 A x %@1 @2}", NONE);
        faults("{1 A x =y @1 @y}", NONE);
        faults("+{1 A x @1} @1", 12);
        faults("{1 : x {1 A y @y : z @z}}", 21);
    }

    private static void loads(String text, int expressions) {
        Machine m = Due.text(new Machine(), text);
        due("load of " + text, m.load(), expressions);
        due("state after load", m.told(0), 1);
        due("focus after load", m.focus(), 2);
        due("text stays", m.told(11), text.length());
    }

    private static void load() {
        loads("7", 1);
        loads("+1 2", 3);
        loads("?1 2 3", 4);
        loads("=x 1 +x x", 5);
        loads("{1}", 2);
        loads("{1A x @x : y !y}", 6);
        loads("&0 ^A ~B %1 2", 6);
        StringBuilder deep = new StringBuilder();
        for (int i = 0; i < 119; i++) {
            deep.append('!');
        }
        loads(deep + "1", 120);
        due("fault of the deepest that is too short", Due.text(new Machine(), deep + "!").fault(0), 120);
        StringBuilder handlers = new StringBuilder("1");
        for (int i = 0; i < 17; i++) {
            handlers.insert(0, "{").append("Aa@a}");
        }
        loads(handlers.toString(), 17 * 3 + 1);
        Machine m = Due.ran("+^A 1 !2");
        due("open", m.told(0), 3);
        m.answer(5);
        Due.ran(m);
        Due.text(m, "+1");
        due("load with a fault", m.load(), STATE);
        Due.ends(m, "the run that stays", 2, 7, 2);
        Due.listing(m, "+^A1!2");
        Due.text(m, "x");
        due("load of a body", m.load(), STATE);
        Due.loaded(m, "!3");
        for (int what = 1; what <= 9; what++) {
            due("told " + what + " after load", m.told(what), 0);
        }
        due("performed after load", m.performed(0), 0);
        due("trace after load", m.trace(0), NONE);
        due("value after load", m.value(), 0);
        due("operation after load", m.told(10), NONE);
    }

    private static void define() {
        Machine m = Due.text(new Machine(), "+x 1");
        due("define(-1)", m.define(-1), BAD);
        due("define(4)", m.define(4), BAD);
        for (int p = 0; p < 4; p++) {
            due("define", m.define(p), 3);
            due("defined", m.told(12), p + 1);
        }
        due("defined again", m.define(2), 3);
        due("defined still", m.told(12), 4);
        Due.text(m, "+y 1");
        due("define with a fault", m.define(0), STATE);
        due("bad define with a fault", m.define(4), BAD);
        Due.ends(Due.ran(Due.loaded(m, "&0 4")), "&0 4", 2, 5);
        due("restart", m.restart(), 2);
        due("run to the frame", m.run(2), 1);
        Due.defined(m, 0, ";!x *x x");
        Due.ends(Due.ran(m), "the new body", 2, 16, 4);
        Due.loaded(m, "&0 3");
        m.run(5);
        due("in the old body", m.focus(), 2);
        Due.defined(m, 0, "0");
        Due.ends(Due.ran(m), "the old body in frames", 2, 9, 3);
    }

    private static void undefine() {
        Machine m = new Machine();
        due("undefine(-1)", m.undefine(-1), BAD);
        due("undefine(4)", m.undefine(4), BAD);
        due("undefine of none", m.undefine(3), 0);
        Due.defined(m, 3, "+x x");
        Due.defined(m, 0, "1");
        due("undefine", m.undefine(3), 1);
        due("undefine again", m.undefine(3), 0);
        due("defined", m.told(12), 1);
        due("may of it", m.may(3, 0, 0), STATE);
        Due.ends(Due.ran(Due.loaded(m, "&3 8")), "an undefined call", 2, 8);
        Due.ends(Due.ran(Due.loaded(m, "&0 8")), "a defined call", 2, 1);
    }

    private static void restart() {
        Machine m = Due.loaded("+!1 ^A2");
        due("restart of a new run", m.restart(), 1);
        m.run(200);
        due("restart of an open run", m.restart(), 3);
        for (int what = 1; what <= 9; what++) {
            due("told " + what + " after restart", m.told(what), 0);
        }
        due("focus", m.focus(), 2);
        due("trace", m.trace(0), NONE);
        due("performed", m.performed(0), 0);
        m.run(200);
        m.answer(7);
        Due.ends(Due.ran(m), "the second run", 2, 8, 1);
        due("restart of an ended run", m.restart(), 2);
        Due.defined(m, 0, "&0 x");
        Due.ran(Due.loaded(m, "&0 1"));
        due("restart out of steps", m.restart(), 5);
        Due.defined(m, 0, "!&0 x");
        Due.ran(m);
        due("restart of one too deep", m.restart(), 4);
        due("goes on", m.told(0), 1);
    }

    private static void lists(String text, String want) {
        Due.listing(Due.loaded(text), want);
    }

    private static void listing() {
        lists("7", "7");
        lists("007", "7");
        lists("000", "0");
        lists("  + 010  020 ", "+10 20");
        lists("+1234", "+123 4");
        lists("+123456", "+123 456");
        lists("+1 !2", "+1!2");
        lists("+!1 2", "+!1 2");
        lists("+ + 1 2 3", "++1 2 3");
        lists("? 1 2 3", "?1 2 3");
        lists("& 0 12", "&012");
        lists("&0 & 1 012", "&0&112");
        lists("+1 &2 3", "+1&23");
        lists("= x 1 + x 2", "=x1+x2");
        lists("=x 1 2", "=x1 2");
        lists("^ A ~ F 100", "^A~F100");
        lists("% 1 2", "%1 2");
        lists("; ! 1 - 2 * 3 < 4 5", ";!1-2*3<4 5");
        lists("{ 1 }", "{1}");
        lists("{1 : x 1 C y @ y A z 2 F a 3 B b 4}", "{1Az2Bb4Cy@yFa3:x1}");
        lists("{{1 : y 2 B x 3} : a 4 A b {5 E c 6 D c 7}}", "{{1Bx3:y2}Ab{5Dc7Ec6}:a4}");
        lists("+{1}{2}", "+{1}{2}");
        StringBuilder packed = new StringBuilder();
        StringBuilder wide = new StringBuilder();
        for (int i = 0; i < 29; i++) {
            packed.insert(0, '+').append(100 + i);
            wide.insert(0, '+').append(i > 0 ? " " : "").append(100 + i);
        }
        lists(packed.append("999").toString(), wide.append(" 999").toString());
        Machine m = Due.loaded("+1 2");
        due("listing(-1)", m.listing(-1), BAD);
        due("listing of none at -1", new Machine().listing(-1), BAD);
        due("listing at the end", m.listing(Integer.MAX_VALUE), NONE);
        Due.defined(m, 0, "x");
        Due.listing(m, "+1 2");
        Due.listing(Due.loaded(m, "3"), "3");
        Due.listing(Due.loaded(m, "4"), "4");
    }

    /** All that an expression may leave, as words like A0. */
    private static void leaves(Machine m, int p, String what, String want) {
        StringBuilder got = new StringBuilder();
        for (int a = 0; a < 6; a++) {
            for (int level = 0; level < 4; level++) {
                if (m.may(p, a, level) == 1) {
                    got.append((char) ('A' + a)).append(level).append(' ');
                }
            }
        }
        due(what + " may leave " + got + "and should " + want, got.toString().trim().equals(want) ? 1 : 0, 1);
    }

    private static void leaves(String text, String want) {
        leaves(Due.loaded(text), -1, text, want);
    }

    private static void may() {
        Machine m = Due.loaded("1");
        for (int[] bad : new int[][] {{-2, 0, 0}, {4, 0, 0}, {-1, -1, 0}, {-1, 6, 0}, {-1, 0, -1}, {-1, 0, 4}, {0, 6, 0}}) {
            due("bad may", m.may(bad[0], bad[1], bad[2]), BAD);
            due("bad may of nothing", new Machine().may(bad[0], bad[1], bad[2]), BAD);
        }
        due("may of an undefined procedure", m.may(0, 0, 0), STATE);
        leaves("1", "");
        leaves("^A1", "A0");
        leaves("+^A1^F2", "A0 F0");
        leaves("?^A1 ^B2 ^C3", "A0 B0 C0");
        leaves("=x ^A1 ^B!^Cx", "A0 B0 C0");
        leaves(";^A1 ^B1", "A0 B0");
        leaves("~A^A1", "A1");
        leaves("~B^A1", "A0");
        leaves("~A~A^A1", "A2");
        leaves("~A~A~A^A1", "A3");
        leaves("~A~A~A~A^A1", "A3");
        leaves("~F~F~F~F+^F1^E2", "E0 F3");
        leaves("~A;^A1 ~A^A1", "A1 A2");
        leaves("{^A1A x 1}", "");
        leaves("{^A1B x 1}", "A0");
        leaves("{^A1A x ^Bx}", "B0");
        leaves("{^A1A x ^Ax}", "A0");
        leaves("{1 : x ^Ax}", "A0");
        leaves("{1 : x ^Ax A x 1}", "A0");
        leaves("{~A^A1A x 1}", "A0");
        leaves("{~A~A^A1A x 1}", "A1");
        leaves("{~A~A~A^A1A x 1}", "A2 A3");
        leaves("{{~A~A~A^A1A x 1}A x 1}", "A1 A2 A3");
        leaves("{~A;^A1 ~B~A^B2 B x 1}", "A1 B0");
        leaves("{{^A1A x ^Bx}B x 1}", "");
        leaves("{;^A1 {^B1 B x @^C1}A x 2}", "C0");
        mayLate();
        mayOfProcedures();
    }

    private static void mayLate() {
        leaves("%^A1 ^B2", "A0 B0");
        leaves("{%1 ^A2 A x 1}", "A0");
        leaves("~A%1 ^A2", "A1");
        leaves("{~A%1 ^A2 A x 1}", "A0");
        leaves("{~A~A%1 ^A2 A x 1}", "A0 A1");
        leaves("{{%1 ^A2 A x 1}A x 2}", "A0");
        leaves("{{%1 ^A2}A x 2}", "A0");
        leaves("{1 A x %1 ^A2}", "A0");
        leaves("{{1 B x %1 ^A2}A x 2}", "A0");
        leaves("{1 A x %1 @2}", "");
        leaves("{1 A x {%1 @^B2 B y 3}}", "B0");
        leaves("{{1 A x %2 ^B3} B y 4}", "B0");
        leaves("{{{%1 ^A2} B x 3} A x 4}", "A0");
        // the clause of @ is late for its handler, and so for @ itself; the inner handler lets it out
        leaves("{1 A x ;~B%1 ^B2 {@3}}", "B0 B1");
    }

    private static void mayOfProcedures() {
        Machine m = Due.defined(new Machine(), 0, ";^Ax ~B&1 x");
        leaves(m, 0, "procedure 0 without 1", "A0");
        Due.defined(m, 1, "?x ^B&0 x %1 ^C1");
        leaves(m, 0, "procedure 0", "A0 B1 B2 B3 C0");
        leaves(m, 1, "procedure 1", "A0 B0 B1 B2 B3 C0");
        Due.loaded(m, "{&0 1 C x 1}");
        leaves(m, -1, "a call in a handler", "A0 B1 B2 B3 C0");
        m.undefine(1);
        leaves(m, -1, "a call of what calls nothing", "A0");
        Due.defined(m, 1, "1");
        Due.loaded(m, "{1 A x {@^B1 B y ~C@^Cy}}");
        leaves(m, -1, "resumptions", "C1 C2 C3");
        mayAfterChanges();
    }

    /** The sets are the smallest ones at each call, whatever was so before. */
    private static void mayAfterChanges() {
        for (int p = 0; p < 4; p++) {
            int other = (p + 1) % 4;
            Machine m = Due.defined(new Machine(), p, ";&" + other + " x &" + p + " x");
            leaves(m, p, "a call of nothing", "");
            Due.defined(m, other, "^Ex");
            leaves(m, p, "a call of what performs", "E0");
            m.undefine(other);
            leaves(m, p, "a call of nothing again", "");
        }
        Machine m = Due.defined(new Machine(), 0, "^Ax");
        Due.loaded(m, "{1 A x {;@1 &0 2}}");
        leaves(m, -1, "a resumption and a call", "A0");
        m.undefine(0);
        leaves(m, -1, "a resumption alone", "");
    }

    public static void main(String[] args) {
        newObject();
        write();
        wipe();
        fault();
        load();
        define();
        undefine();
        restart();
        listing();
        may();
        Due.finish("TextsTest");
    }
}
