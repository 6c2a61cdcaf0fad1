/** Promises 11 to 20: runs, and what is told of them. */
public final class RunsTest {
    private static final int BAD = Due.BAD, STATE = Due.STATE, NONE = Due.NONE;

    private static void due(String what, long got, long want) {
        Due.due(what, got, want);
    }

    private static void step(Machine m, String what, int focus, int value, int... kinds) {
        Due.step(m, what, focus, value, kinds);
    }

    private static void run() {
        Machine m = Due.loaded("+1 2");
        for (int bad : new int[] {0, -1, 201, Integer.MIN_VALUE, Integer.MAX_VALUE}) {
            due("run(" + bad + ")", m.run(bad), BAD);
            due("run(" + bad + ") of nothing", new Machine().run(bad), BAD);
        }
        due("no step", m.told(1), 0);
        due("run(3)", m.run(3), 1);
        due("steps", m.told(1), 3);
        due("run(200)", m.run(200), 2);
        due("steps", m.told(1), 5);
        due("run behind the end", m.run(1), STATE);
        due("bad run behind the end", m.run(0), BAD);
        m = Due.loaded("^A1");
        due("run to an operation", m.run(200), 3);
        due("run when open", m.run(200), STATE);
        due("steps", m.told(1), 3);
        m = Due.loaded("5");
        due("the shortest run", m.run(1), 2);
        due("its value", m.value(), 5);
    }

    private static void values() {
        Due.run("7", 2, 7);
        Due.run("+1 2", 2, 3);
        Due.run("-1 2", 2, -1);
        Due.run("*12 12", 2, 144);
        Due.run("<1 2", 2, 1);
        Due.run("<2 2", 2, 0);
        Due.run("<2 1", 2, 0);
        Due.run("< -0 1 0", 2, 1);
        Due.run("-999 012", 2, 987);
        Due.run("=a 999 =a *a a =a *a a a", 2, 999 * 999 * (999 * 999));
        Due.run("=a *800*800 800 =b *a 4 + b b", 2, 4 * 800 * 800 * 800 * 2);
        Due.run("*512*512*512 16", 2, Integer.MIN_VALUE);
        Due.run("-0*512*512*512 16", 2, Integer.MIN_VALUE);
        Due.run("-*512*512*512 16 1", 2, Integer.MAX_VALUE);
        Due.run("<1 *512*512*512 16", 2, 0);
        Due.run("?0 !1 !2", 2, 2, 2);
        Due.run("?2 !1 !2", 2, 1, 1);
        Due.run("?-0 1 !1 !2", 2, 1, 1);
        Due.run(";!1 !2", 2, 2, 1, 2);
        Due.run("+!1 !2", 2, 3, 1, 2);
        Due.run("!!3", 2, 3, 3, 3);
        Due.run("=x 1 +=x 2 x x", 2, 3);
        Due.run("=x 1 =y x =x 5 +*x 10 y", 2, 51);
        Due.run("=x 1 =x +x x =x +x x x", 2, 4);
        Due.run("~A 4", 2, 4);
        Due.run("%!1 !2", 2, 1, 1, 2);
        Due.run("&2 6", 2, 6);
        Due.run("{5}", 2, 5);
        Due.run("{5 : x +x 1}", 2, 6);
        Due.run("=y 3 {5 : x +x y}", 2, 8);
        Due.run("=x 3 {x : x +x x}", 2, 6);
        Due.run("{{1 : x +x 10} : x +x 100}", 2, 111);
    }

    private static void steps() {
        Machine m = Due.loaded("=y !4 ;y ?0 1 y");
        step(m, "bind", 2, 0, 5);
        step(m, "emit", 2, 0, 6, 5);
        step(m, "4", 1, 4, 6, 5);
        step(m, "emitted", 1, 4, 5);
        step(m, "bound", 2, 0);
        step(m, "before", 2, 0, 4);
        step(m, "y", 1, 4, 4);
        step(m, "the second", 2, 0);
        step(m, "test", 2, 0, 3);
        step(m, "0", 1, 0, 3);
        step(m, "the third", 2, 0);
        step(m, "the end", 0, 4);
        due("state", m.told(0), 2);
        m = Due.loaded("-7 2");
        step(m, "left", 2, 0, 1);
        step(m, "7", 1, 7, 1);
        step(m, "right", 2, 0, 2);
        due("remembered", m.frame(0, 1), 7);
        step(m, "2", 1, 2, 2);
        step(m, "the difference", 0, 5);
    }

    private static void stepsOfProcedures() {
        Machine m = Due.defined(new Machine(), 3, "+x 1");
        Due.loaded(m, "!&3 ~F 8");
        step(m, "emit", 2, 0, 6);
        step(m, "call", 2, 0, 10, 6);
        due("the procedure", m.frame(0, 1), 3);
        due("none of emit", m.frame(1, 1), NONE);
        step(m, "mask", 2, 0, 8, 10, 6);
        due("the masked operation", m.frame(0, 1), 5);
        step(m, "8", 1, 8, 8, 10, 6);
        step(m, "masked", 1, 8, 10, 6);
        step(m, "the body", 2, 0, 6);
        step(m, "left", 2, 0, 1, 6);
        step(m, "x", 1, 8, 1, 6);
        step(m, "right", 2, 0, 2, 6);
        step(m, "1", 1, 1, 2, 6);
        step(m, "sum", 1, 9, 6);
        step(m, "the end", 0, 9);
        Due.trace(m, "the call", 9);
        Due.loaded(m, "&1 5");
        step(m, "a call of nothing", 2, 0, 10);
        step(m, "5", 1, 5, 10);
        step(m, "the value that stays", 0, 5);
    }

    private static void stepsOfHandlers() {
        Machine m = Due.loaded("+1{^B2 B x @x A y 7 : z *z 5}");
        m.run(3);
        step(m, "handler", 2, 0, 12, 2);
        due("clauses for operations", m.frame(0, 1), 2);
        step(m, "perform", 2, 0, 7, 12, 2);
        due("the operation", m.frame(0, 1), 1);
        step(m, "2", 1, 2, 7, 12, 2);
        step(m, "the clause", 2, 0, 14, 2);
        due("resumptions", m.told(6), 1);
        due("uses", m.told(7), 0);
        due("used", m.frame(0, 1), 0);
        step(m, "resume", 2, 0, 11, 14, 2);
        due("used", m.frame(0, 1), 0);
        step(m, "x", 1, 2, 11, 14, 2);
        step(m, "resumed", 1, 2, 12, 14, 2);
        due("used", m.frame(1, 1), 1);
        due("uses", m.told(7), 1);
        step(m, "the return clause", 2, 0, 14, 2);
        step(m, "left", 2, 0, 1, 14, 2);
        step(m, "z", 1, 2, 1, 14, 2);
        step(m, "right", 2, 0, 2, 14, 2);
        step(m, "5", 1, 5, 2, 14, 2);
        step(m, "the product", 1, 10, 14, 2);
        step(m, "the clause's end", 1, 10, 2);
        step(m, "the end", 0, 11);
        due("the greatest number of frames", m.told(3), 3);
    }

    private static void handling() {
        Due.run("{^A1 A x 5}", 2, 5);
        Due.run("{+^A1 100 A x +x 5}", 2, 6);
        Due.run("{+^A1 100 A x +@x 5}", 2, 106);
        Due.run("{+^A1 100 A x +@x @2}", 2, 203);
        Due.run("{+^A1 100 A x +@x @2 : y *y 10}", 2, 2030);
        Due.run("{+^A1 ^A2 A x @*x 10}", 2, 30);
        Due.run("{;^A1 ^A2 A x ;!x ;@0 !+x 10}", 2, 11, 1, 2, 12, 11);
        Due.run("{{^A1 A x 5} A x 6}", 2, 5);
        Due.run("{{^A1 B x 5} A x 6}", 2, 6);
        Due.run("{{^A1 A x ^A+x 1} A x *x 10}", 2, 20);
        Due.run("{{^A1 : x ^Ax A y 3} A x *x 10}", 2, 3);
        Due.run("{{^A1 : x ^Ax A y @4} A x *x 10}", 2, 40);
        Due.run("{{~A^A1 A x 5} A x 6}", 2, 6);
        Due.run("{{~B^A1 A x 5} A x 6}", 2, 5);
        Due.run("{{~A~A^A1 A x 5} A x 6}", 3, 1);
        Due.run("{{{~A~A^A1 A x 5} A x 6} A x 7}", 2, 7);
        Due.run("{~A{^A1 A x 5} A x 6}", 2, 5);
        Due.run("{~A{^A1 B x 5} A x 6}", 3, 1);
        Due.run("{{~A^A1 B x 5} A x 6}", 3, 1);
        Due.run("{{~A{~A^A1 A x 5} A x 6} A x 7}", 2, 7);
        Due.run("=y 3{=y 4 ^Ay A x +x*y 10}", 2, 34);
        Due.run("=x 3{=y 4 ^Ay A y +x*y 10}", 2, 43);
        Due.run("{^A1 A x {@x : y +y 1} : z *z 10}", 2, 11);
        Due.run("{^A1 A x {7 : y @y} : z *z 10}", 2, 70);
        Due.run("{^A1 A x {^B2 B y @+x y}: z *z 10}", 2, 3);
        Due.run("{+^A1 ^A5 A x {@+x 1 B y 3}}", 2, 8);
    }

    private static void finalizers() {
        Due.run("%1 !2", 2, 1, 2);
        Due.run("%%1 !2 !3", 2, 1, 2, 3);
        Due.run("%1 %!2 !3", 2, 1, 2, 3);
        Due.run("=x 4 %=x 5 x !x", 2, 5, 4);
        // left for good: when the clause ends, from the inside on
        Due.run("{%%^A1 !2 !3 A x ;!x 9}", 2, 9, 1, 2, 3);
        // resumed: by the computation itself, and only once
        Due.run("{%^A1 !2 A x ;@x !3}", 2, 3, 2, 3);
        Due.run("{%^A1 !2 A x ;@x @4}", 2, 4, 2);
        // a new finalizer for each time that it is pushed by an expression
        Due.run("{;^A1 %5 !2 A x ;@x @4}", 2, 5, 2, 2);
        // its @ is that of its place, even when the clause has gone on
        Due.run("{+^A10 1 A x %3 !@x}", 2, 3, 11);
        // pending by way of a clause that was left itself
        Due.run("{{%^A1 !2 A x ^B3} B x ;!7 8}", 2, 8, 7, 2);
        Due.run("{{%^A1 !2 A x %^B3 !4} B x ;!7 8}", 2, 8, 7, 4, 2);
        Due.run("{%{%^A1 !2 A x ^B3} !5 B x ;!7 8}", 2, 8, 7, 2, 5);
        // a resumption that still waits for its value has not been used
        Due.run("{{%^A1 !2 A x @^B3} B x ;!7 8}", 2, 8, 7, 2);
        Due.run("{{%;^A1 ^B2 !3 A x @4} B x 8}", 2, 8, 3);
        // what is pending outside waits until the clause outside goes on
        Due.run("{%%^A1 !{^B1 B y 2} !3 A x 9}", 2, 9, 2, 3);
        Due.run("{%%^A1 !{%^B1 !4 B y 2} !3 A x 9}", 2, 9, 4, 2, 3);
        // finalizers perform, where they stand in the run
        Due.run("{{%^A1 !^B2 A x 5} B x @+x 10}", 2, 5, 12);
        Due.run("{%^A1 ^A2 A x !x}", 3, 2, 1);
        Due.run("{{%^A1 ^A2 A x !x} A x !+x 5}", 2, 7, 1, 7);
    }

    private static void finalizerFrames() {
        Machine m = Due.loaded("{%^A1 !2 A x 9}");
        m.run(2);
        Due.kinds(m, "in the finalizer's expression", 9, 12);
        due("not executed", m.frame(0, 1), 0);
        step(m, "perform", 2, 0, 7, 9, 12);
        step(m, "1", 1, 1, 7, 9, 12);
        step(m, "the clause", 2, 0, 14);
        step(m, "9", 1, 9, 14);
        step(m, "the pending finalizer", 2, 0, 13, 14);
        due("remembered", m.frame(0, 1), 9);
        due("executed", m.told(9), 1);
        step(m, "emit", 2, 0, 6, 13, 14);
        step(m, "2", 1, 2, 6, 13, 14);
        step(m, "emitted", 1, 2, 13, 14);
        step(m, "after", 1, 9, 14);
        step(m, "the end", 0, 9);
        m = Due.loaded("{%^A1 2 A x %@5 @6}");
        m.run(8);
        Due.kinds(m, "before the resumption", 11, 9, 14);
        step(m, "resumed", 1, 5, 9, 12, 9, 14);
        due("not executed", m.frame(0, 1), 0);
        step(m, "executed", 2, 0, 13, 12, 9, 14);
        due("remembered", m.frame(0, 1), 5);
        m.run(2);
        step(m, "handled", 1, 5, 9, 14);
        step(m, "the clause's own finalizer", 2, 0, 13, 14);
        m.run(2);
        step(m, "resumed again", 1, 6, 9, 12, 13, 14);
        due("executed before", m.frame(0, 1), 1);
        due("used twice", m.frame(3, 1), 2);
        step(m, "not executed again", 1, 6, 12, 13, 14);
        due("executions", m.told(9), 2);
        due("used more than once", m.told(8), 1);
    }

    private static void openRuns() {
        Machine m = Due.loaded("!+^C1 ^D2");
        due("answer when it goes on", m.answer(1), STATE);
        due("drop when it goes on", m.drop(1), STATE);
        m.run(200);
        due("open", m.told(0), 3);
        due("operation", m.told(10), 2);
        due("argument", m.value(), 1);
        due("focus", m.focus(), 0);
        Due.kinds(m, "of an open run", 1, 6);
        due("answer", m.answer(-9), 2);
        due("operation", m.told(10), NONE);
        due("goes on", m.told(0), 1);
        due("value", m.value(), -9);
        due("focus", m.focus(), 1);
        due("steps", m.told(1), 5);
        m.run(200);
        due("operation", m.told(10), 3);
        due("answer", m.answer(Integer.MIN_VALUE), 2);
        Due.ends(Due.ran(m), "an answered run", 2, Integer.MAX_VALUE - 8, Integer.MAX_VALUE - 8);
        due("answer behind the end", m.answer(1), STATE);
        due("drop behind the end", m.drop(1), STATE);
        due("operations", m.told(5), 2);
        due("resumptions", m.told(6), 0);
        m = Due.ran("^A4");
        due("answer without frames", m.answer(6), 0);
        due("ended at once", m.told(0), 2);
        due("its value", m.value(), 6);
        due("focus of an ended run", m.focus(), 0);
    }

    private static void drop() {
        Machine m = Due.ran("!+^A1 5");
        due("drop", m.drop(7), 2);
        Due.kinds(m, "of a dropped run", 14);
        due("goes on", m.told(0), 1);
        due("value", m.value(), 7);
        due("resumptions", m.told(6), 1);
        due("uses", m.told(7), 0);
        Due.ends(Due.ran(m), "a dropped run", 2, 7);
        m = Due.ran("^A1");
        due("drop without frames", m.drop(3), 0);
        Due.kinds(m, "of a run dropped without frames", 14);
        due("goes on", m.told(0), 1);
        Due.ends(Due.ran(m), "a run dropped without frames", 2, 3);
        m = Due.ran("%%^A1 !2 !3");
        due("drop with finalizers", m.drop(9), 2);
        Due.ends(Due.ran(m), "a run dropped with finalizers", 2, 9, 2, 3);
        m = Due.ran("%%^A1 ;!2^B4 !3");
        m.drop(9);
        Due.ran(m);
        due("open in a finalizer", m.told(0), 3);
        due("its argument", m.value(), 4);
        Due.kinds(m, "in the finalizer", 13, 14);
        due("drop in a finalizer", m.drop(8), 2);
        Due.ends(Due.ran(m), "a run dropped twice", 2, 8, 2, 3);
        due("resumptions", m.told(6), 2);
        m = Due.ran("{{%^B1 !2 A x 3}A x %^Cx !4}");
        m.drop(6);
        Due.ends(Due.ran(m), "handlers are dropped", 2, 6, 2);
    }

    /** Frames of ! up to a number, by a procedure that calls itself. */
    private static Machine deep(String body) {
        Machine m = Due.defined(new Machine(), 0, body);
        return Due.loaded(m, "&0 1");
    }

    private static void tooDeep() {
        Machine m = Due.ran(deep("!&0 x"));
        due("too deep", m.told(0), 4);
        due("frames", m.told(2), 100);
        due("greatest number", m.told(3), 100);
        due("value", m.value(), 0);
        due("focus", m.focus(), 0);
        due("the last frame", m.frame(99, 0), 6);
        due("no frame behind it", m.frame(100, 0), BAD);
        // each round has 4 steps and one more frame; the call itself needs one frame in passing
        due("steps", m.told(1), 2 + 99 * 4 + 1 + 1);
        due("run", m.run(1), STATE);
        due("answer", m.answer(1), STATE);
        StringBuilder masks = new StringBuilder();
        for (int i = 0; i < 100; i++) {
            masks.append('!');
        }
        Due.ends(Due.ran(masks + "3"), "100 frames", 2, 3, new int[] {
            3, 3, 3, 3, 3, 3, 3, 3, 3, 3, 3, 3, 3, 3, 3, 3, 3, 3, 3, 3, 3, 3, 3, 3, 3, 3, 3, 3, 3, 3,
            3, 3, 3, 3, 3, 3, 3, 3, 3, 3, 3, 3, 3, 3, 3, 3, 3, 3, 3, 3, 3, 3, 3, 3, 3, 3, 3, 3, 3, 3});
        due("trace behind the last", Due.ran(masks + "3").trace(60), NONE);
        m = Due.ran(masks + "!3");
        due("101 frames", m.told(0), 4);
        due("100 steps", m.told(1), 100);
        tooDeepByResumption();
        tooDeepByFinalizer();
    }

    private static String signs(int n) {
        StringBuilder s = new StringBuilder();
        for (int i = 0; i < n; i++) {
            s.append('!');
        }
        return s.toString();
    }

    private static void tooDeepByResumption() {
        // 98 frames emit and the handler are captured; the clause alone is below them
        Machine m = Due.ran("{" + signs(98) + "^A1A x @x}");
        due("room for 99 on 1", m.told(0), 2);
        due("greatest number", m.told(3), 100);
        m = Due.ran("{" + signs(98) + "^A1A x !@x}");
        due("99 on 2", m.told(0), 4);
        Due.kinds(m, "before what is too deep", 11, 6, 14);
        due("not used", m.told(7), 0);
        due("not used", m.frame(0, 1), 0);
        due("steps", m.told(1), 1 + 98 + 3 + 3);
        due("greatest number", m.told(3), 100);
    }

    private static void tooDeepByFinalizer() {
        // B captures the clause of A and its own handler; they come upon a clause and the frames emit
        Machine m = Due.ran("{{%^A1 2A x^B3}B x" + signs(96) + "@x}");
        due("room for the finalizer", m.told(0), 2);
        due("greatest number", m.told(3), 100);
        due("executed", m.told(9), 1);
        m = Due.ran("{{%^A1 2A x^B3}B x" + signs(97) + "@x}");
        due("no room for the finalizer", m.told(0), 4);
        due("frames", m.told(2), 100);
        due("the clause is on top", m.frame(0, 0), 14);
        due("not executed", m.told(9), 0);
        due("resumed", m.told(7), 1);
    }

    private static void outOfSteps() {
        Machine m = Due.defined(new Machine(), 0, "&0 x");
        Due.loaded(m, "&0 1");
        for (int i = 1; i < 5; i++) {
            due("run", m.run(200), 1);
            due("steps", m.told(1), i * 200);
        }
        due("199 more", m.run(199), 1);
        due("the last one", m.run(1), 5);
        due("steps", m.told(1), 1000);
        due("value", m.value(), 0);
        due("focus", m.focus(), 0);
        due("run", m.run(1), STATE);
        due("answer", m.answer(1), STATE);
        outOfStepsWhenOpen();
    }

    private static Machine counting(String before, int rounds, String last) {
        return Due.counting(before, rounds, last);
    }

    private static void outOfStepsWhenOpen() {
        Machine m = counting("&0", 99, "^A1");
        due("open behind 999 steps", m.told(0), 3);
        due("999 steps", m.told(1), 999);
        due("answered", m.answer(4), 0);
        due("ended", m.told(0), 2);
        m = counting("!&0", 99, "^A1");
        due("open at the last step", m.told(0), 3);
        due("1000 steps", m.told(1), 1000);
        due("argument", m.value(), 1);
        due("answered with a frame", m.answer(5), 1);
        due("out of steps at once", m.told(0), 5);
        due("no more operation", m.told(10), NONE);
        due("value", m.value(), 0);
        due("run", m.run(1), STATE);
        m = counting("&0 ~F~F~F~F", 98, "=a 0 ^A1");
        due("open at the last step", m.told(0), 3);
        due("1000 steps", m.told(1), 1000);
        due("keep", m.keep(0), 3);
        due("answered without frames", m.answer(5), 0);
        due("ended, not out of steps", m.told(0), 2);
        due("value", m.value(), 5);
        due("back", m.back(0), 3);
        due("dropped", m.drop(5), 0);
        due("out of steps at once", m.told(0), 5);
        due("value", m.value(), 0);
        due("focus", m.focus(), 0);
        Due.kinds(m, "out of steps", 14);
        due("run", m.run(1), STATE);
        m = counting("&0", 99, "=a 0 777");
        due("ended by the last step", m.told(0), 2);
        due("1000 steps", m.told(1), 1000);
        due("value", m.value(), 777);
        m = counting("!&0", 99, "=a 0 777");
        due("one step is missing", m.told(0), 5);
        due("1000 steps", m.told(1), 1000);
        m = counting("&0", 99, "!!!!777");
        due("in the middle", m.told(0), 5);
        Due.kinds(m, "in the middle", 6, 6, 6, 6);
    }

    private static void told() {
        Machine m = Due.loaded("{;^A1 ;%2 ^B3 !4 A x ;@x @5 B y @6}");
        for (int bad : new int[] {-1, 13, Integer.MIN_VALUE, Integer.MAX_VALUE}) {
            due("told(" + bad + ")", m.told(bad), BAD);
        }
        Due.defined(m, 1, "x");
        Due.text(m, "abc");
        Due.ran(m);
        due("state", m.told(0), 2);
        due("frames", m.told(2), 0);
        due("trace", m.told(4), 2);
        due("operations", m.told(5), 3);
        due("resumptions", m.told(6), 3);
        due("uses", m.told(7), 4);
        due("used more than once", m.told(8), 1);
        due("finalizers", m.told(9), 2);
        due("operation", m.told(10), NONE);
        due("text", m.told(11), 3);
        due("procedures", m.told(12), 1);
        due("performed A", m.performed(0), 1);
        due("performed B", m.performed(1), 2);
        due("performed F", m.performed(5), 0);
        m = Due.ran("{+^A1 +^A2 ^F3 A x @x}");
        due("operations, handled or not", m.told(5), 3);
        due("resumptions, handled ones alone", m.told(6), 2);
        due("open", m.told(10), 5);
        m = Due.ran("{^A1 A x +@1 +@2 @3}");
        due("uses", m.told(7), 3);
        due("used more than once", m.told(8), 1);
    }

    private static void performed() {
        Machine m = Due.ran("+^A1 ^F2");
        due("performed(-1)", m.performed(-1), BAD);
        due("performed(6)", m.performed(6), BAD);
        due("performed A", m.performed(0), 1);
        due("performed F", m.performed(5), 0);
        m.answer(1);
        Due.ran(m);
        due("performed F", m.performed(5), 1);
        Due.loaded(m, "1");
        due("performed in another run", m.performed(5), 0);
    }

    private static void traceAndValue() {
        Machine m = Due.ran(";!7 !-0 9");
        due("trace(-1)", m.trace(-1), BAD);
        due("trace 0", m.trace(0), 7);
        due("trace 1", m.trace(1), -9);
        due("trace 2", m.trace(2), NONE);
        due("trace at the end", m.trace(Integer.MAX_VALUE), NONE);
        due("trace of nothing", new Machine().trace(-1), BAD);
        m = Due.loaded("+3 4");
        due("value of an expression", m.value(), 0);
        due("focus", m.focus(), 2);
        m.run(2);
        due("value in the focus", m.value(), 3);
        due("focus", m.focus(), 1);
    }

    private static void frames() {
        Machine m = Due.loaded("{+1 ~A%=x ^A1 2 3 A x 4}");
        m.run(8);
        Due.kinds(m, "in all", 7, 5, 9, 8, 2, 12);
        int[] properties = {0, NONE, 0, 0, 1, 1};
        for (int k = 0; k < properties.length; k++) {
            due("property of " + k, m.frame(k, 1), properties[k]);
        }
        for (int[] bad : new int[][] {{-1, 0}, {6, 0}, {0, 2}, {0, -1}, {Integer.MIN_VALUE, 0}, {Integer.MAX_VALUE, 1}}) {
            due("frame(" + bad[0] + ", " + bad[1] + ")", m.frame(bad[0], bad[1]), BAD);
        }
        m = Due.loaded("?!;1 2 3 4");
        m.run(3);
        for (int k = 0; k < 3; k++) {
            due("no property", m.frame(k, 1), NONE);
        }
        m = Due.loaded("{1 F x 1 : x 2 A x 3 C x 4}");
        m.run(1);
        due("the return clause does not count", m.frame(0, 1), 3);
        m = Due.loaded("{1 : x 2}");
        m.run(1);
        due("the return clause alone", m.frame(0, 1), 0);
        m = Due.loaded("+1 2");
        m.run(1);
        due("left", m.frame(0, 1), NONE);
    }

    private static void handler() {
        Machine m = Due.loaded("{{~A!1 A x 1} B x 2 A x 3}");
        for (int bad : new int[] {-1, 6, Integer.MIN_VALUE, Integer.MAX_VALUE}) {
            due("handler(" + bad + ")", m.handler(bad), BAD);
        }
        due("before the first step", m.handler(0), NONE);
        m.run(1);
        due("handler of A", m.handler(0), 0);
        m.run(1);
        due("handler of A", m.handler(0), 0);
        due("handler of B", m.handler(1), 1);
        m.run(1);
        due("handler of A, masked", m.handler(0), 2);
        due("handler of B", m.handler(1), 2);
        m.run(1);
        due("handler of A, masked", m.handler(0), 3);
        due("handler of C", m.handler(2), NONE);
        Due.ran(m);
        due("behind the end", m.handler(0), NONE);
        m = Due.ran("{~A^A1 A x 1}");
        due("when open", m.handler(0), NONE);
        due("when open", m.handler(1), NONE);
    }

    public static void main(String[] args) {
        run();
        values();
        steps();
        stepsOfProcedures();
        stepsOfHandlers();
        handling();
        finalizers();
        finalizerFrames();
        openRuns();
        drop();
        tooDeep();
        outOfSteps();
        told();
        performed();
        traceAndValue();
        frames();
        handler();
        Due.finish("RunsTest");
    }
}
