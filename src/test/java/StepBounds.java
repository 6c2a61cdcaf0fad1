/** The sentences on the execution. */
final class StepBounds {
    private static final int BAD = Due.BAD, STATE = Due.STATE, NONE = Due.NONE;
    private static final int MIN = Integer.MIN_VALUE, MAX = Integer.MAX_VALUE;
    private static final String D = "Description";

    private StepBounds() {
    }

    private static void due(String what, long got, long want) {
        Due.due(what, got, want);
    }

    private static void of(String words, String remark, Runnable test) {
        Sentences.of(D, words, remark, test);
    }

    private static void of(String words, Runnable test) {
        Sentences.of(D, words, test);
    }

    private static void step(Machine m, String what, int focus, int value, int... kinds) {
        Due.step(m, what, focus, value, kinds);
    }

    static void all() {
        focusAndSteps();
        pushedFrames();
        operandFrames();
        passingFrames();
        callsAndResumptions();
        handlersAndClauses();
        endings();
        searches();
        captures();
        openRuns();
        finalizersOfTheirOwn();
        pendingFinalizers();
        tooDeep();
        tooDeepChangesNothing();
        outOfSteps();
        trace();
        states();
    }

    /** Signs of ! that push as many frames. */
    private static String emits(int n) {
        return "!".repeat(n);
    }

    // ---- the focus and steps

    private static void focusAndSteps() {
        of("The machine has a focus and a stack of frames.", () -> {
            Machine m = Due.loaded("!!7");
            due("focus", m.focus(), 2);
            Due.kinds(m, "at first");
            step(m, "the first step", 2, 0, 6);
            step(m, "the second step", 2, 0, 6, 6);
        });
        String focus = "The focus is an expression with the values of its variables (and the resumption to which its @ belongs), or a"
                + " value.";
        of(focus, "the values of its variables", () -> {
            Machine m = Due.defined(new Machine(), 0, "?x +*10 x &0 -x 1 0");
            Due.ends(Due.ran(Due.loaded(m, "&0 3")), "each call has its own x", 2, 60);
            Due.run("=x 1 +=x 2 +x x x", 2, 5);
        });
        of(focus, "the resumption to which its @ belongs", () -> {
            // each A has a resumption of its own, and they are used from the last one on
            Due.run("{;!^A1 !^A2 A x +@x 10}", 2, 22, 1, 2);
            Due.run("{+^A1 ^A2 A x *10@x}", 2, 300);
        });
        of("A step is one of the following.", () -> {
            Machine m = Due.loaded("+!1 *2 3");
            for (int n = 1; n < 11; n++) {
                due("run(1)", m.run(1), 1);
                due("steps", m.told(1), n);
            }
            due("the last step", m.run(1), 2);
            due("steps", m.told(1), 11);
        });
        of("If the focus is an expression: a number or a variable becomes its value.", () -> {
            for (int number : new int[] {0, 1, 999}) {
                step(Due.loaded("" + number), "the number " + number, 0, number);
                Machine m = Due.loaded("!" + number);
                m.run(1);
                step(m, "the number " + number, 1, number, 6);
            }
            for (int v : new int[] {MIN, -1, 0, MAX}) {
                Machine m = Due.ran("=z ^A1 !z");
                m.answer(v);
                m.run(2);
                step(m, "the variable", 1, v, 6);
            }
        });
    }

    /** The kind of frame that a text pushes first; its first expression is a 7. */
    private static void pushes(String text, int kind) {
        Machine m = Due.loaded(text);
        step(m, "the first step of " + text, 2, 0, kind);
        step(m, "the first expression of " + text, 1, 7, kind);
    }

    private static void pushedFrames() {
        of("For all other expressions, a frame of a kind is pushed, and the first expression in it (for a handler, the one that it"
                + " handles) becomes the focus: 1 left for the operators + - * and <;", () -> {
            pushes("+7 1", 1);
            pushes("-7 1", 1);
            pushes("*7 1", 1);
            pushes("<7 1", 1);
        });
        of("3 test for ?;", () -> pushes("?7 1 2", 3));
        of("4 before for ;;", () -> pushes(";7 1", 4));
        of("5 bind for =;", () -> pushes("=x 7 1", 5));
        of("6 emit for !;", () -> pushes("!7", 6));
        of("7 perform for ^;", () -> pushes("^A7", 7));
        of("8 mask for ~;", () -> pushes("~A7", 8));
        of("9 finalizer for %;", () -> pushes("%7 1", 9));
        of("10 call for &;", () -> pushes("&0 7", 10));
        of("11 resume for @;", () -> {
            Machine m = Due.loaded("{^A1 A x @7}");
            m.run(4);
            step(m, "@", 2, 0, 11, 14);
            step(m, "the first expression of @", 1, 7, 11, 14);
        });
        of("12 handler for {.", () -> {
            pushes("{7}", 12);
            pushes("{7 A x 1 : y 2}", 12);
        });
    }

    private static void operandFrames() {
        of("If the focus is a value v, the top frame is popped, and according to its kind:", () -> {
            Machine m = Due.loaded("!~A!7");
            m.run(4);
            Due.kinds(m, "with a value", 6, 8, 6);
            step(m, "the first pop", 1, 7, 8, 6);
            step(m, "the second pop", 1, 7, 6);
            step(m, "the last pop", 0, 7);
        });
        of("1 left a frame 2 right, which remembers v, is pushed, and the second operand becomes the focus", () -> {
            for (int v : new int[] {MIN, -9, 0, MAX}) {
                Machine m = Due.ran("-^A0 !5");
                m.answer(v);
                step(m, "left", 2, 0, 2);
                due("remembered", m.frame(0, 1), v);
                step(m, "emit", 2, 0, 6, 2);
            }
        });
        of("2 right the result of the operator for the remembered value and v becomes the focus", () -> {
            int[] results = {9, 5, 14, 0};
            for (int i = 0; i < 4; i++) {
                Machine m = Due.loaded("!" + "+-*<".charAt(i) + "7 2");
                m.run(5);
                Due.kinds(m, "before the result", 2, 6);
                step(m, "the result", 1, results[i], 6);
            }
        });
        of("3 test the second or third expression becomes the focus", () -> {
            Machine m = Due.loaded("?1 !2 ~A3");
            m.run(2);
            step(m, "test of 1", 2, 0);
            step(m, "the second", 2, 0, 6);
            m = Due.loaded("?0 !2 ~A3");
            m.run(2);
            step(m, "test of 0", 2, 0);
            step(m, "the third", 2, 0, 8);
        });
        of("4 before the second expression becomes the focus", () -> {
            Machine m = Due.loaded(";1 !2");
            m.run(2);
            step(m, "before", 2, 0);
            step(m, "the second", 2, 0, 6);
        });
        of("5 bind the second expression, with the variable bound to v, becomes the focus", () -> {
            Machine m = Due.loaded("=q 8 !q");
            m.run(2);
            step(m, "bind", 2, 0);
            step(m, "the second", 2, 0, 6);
            step(m, "the variable", 1, 8, 6);
        });
    }

    private static void passingFrames() {
        of("6 emit v is appended to the trace, and stays the focus", () -> {
            Machine m = Due.loaded("+!8 1");
            m.run(3);
            due("the trace before", m.told(4), 0);
            step(m, "emit", 1, 8, 1);
            Due.trace(m, "emit", 8);
        });
        of("7 perform see below", () -> {
            Machine m = Due.loaded("!^A8");
            m.run(3);
            step(m, "perform", 0, 8, 6);
            due("state", m.told(0), 3);
        });
        of("8 mask v stays the focus", () -> {
            Machine m = Due.loaded("!~A8");
            m.run(3);
            step(m, "mask", 1, 8, 6);
        });
        of("9 finalizer if this finalizer has not been executed yet, it is executed: a frame 13 after, which remembers v, is pushed,"
                + " and the finalizer becomes the focus;", () -> {
            for (int v : new int[] {MIN, -1, 0, MAX}) {
                Machine m = Due.ran("%^A1 !2");
                m.answer(v);
                due("finalizers that were executed", m.told(9), 0);
                step(m, "the finalizer", 2, 0, 13);
                due("remembered", m.frame(0, 1), v);
                due("finalizers that were executed", m.told(9), 1);
                step(m, "emit", 2, 0, 6, 13);
            }
        });
        of("otherwise v stays the focus 10 call", () -> {
            Machine m = Due.loaded("{+%^A1 2 3 A x ;@4 @5}");
            Due.until(m, 1, 9, 1, 12, 14);
            due("uses", m.told(7), 2);
            due("executed", m.frame(0, 1), 1);
            step(m, "a finalizer that was executed", 1, 5, 1, 12, 14);
            due("finalizers that were executed", m.told(9), 1);
        });
        of("13 after the remembered value becomes the focus", () -> {
            for (int v : new int[] {MIN, -1, 0, MAX}) {
                Machine m = Due.ran("!%^A1 2");
                m.answer(v);
                m.run(2);
                due("remembered", m.frame(0, 1), v);
                step(m, "after", 1, v, 6);
            }
        });
    }

    private static void callsAndResumptions() {
        of("10 call the body of the procedure, with x bound to v, becomes the focus;", () -> {
            Machine m = Due.loaded(Due.defined(new Machine(), 1, "!x"), "~A&1 7");
            m.run(3);
            step(m, "call", 2, 0, 8);
            step(m, "the body", 2, 0, 6, 8);
            step(m, "x", 1, 7, 6, 8);
        });
        of("v stays the focus if the procedure is not defined", () -> {
            Machine m = Due.loaded(Due.defined(new Machine(), 0, "1"), "!&1 7");
            m.run(3);
            step(m, "call", 1, 7, 6);
        });
        String resume = "11 resume the resumption is used once more: all frames that it has captured are pushed again, so that the one"
                + " that was on top is on top again; v stays the focus";
        of(resume, "the order of the frames, and the uses", () -> {
            Machine m = Due.loaded("{!~B=y%^A1 2 y A x ~C@+x 8}");
            m.run(13);
            Due.kinds(m, "before the sum", 2, 11, 8, 14);
            step(m, "8", 1, 8, 2, 11, 8, 14);
            step(m, "the sum", 1, 9, 11, 8, 14);
            due("uses before", m.told(7), 0);
            step(m, "resume", 1, 9, 9, 5, 8, 6, 12, 8, 14);
            due("uses", m.told(7), 1);
            due("uses of the resumption", m.frame(6, 1), 1);
        });
        of(resume, "the one frame that a resumption captures at least", () -> {
            Machine m = Due.loaded("{^A1 A x !@x}");
            m.run(7);
            Due.kinds(m, "before", 11, 6, 14);
            step(m, "resume", 1, 1, 12, 6, 14);
        });
        of(resume, "not at all, once, and more often", () -> {
            for (int uses = 0; uses <= 5; uses++) {
                Machine m = Due.ran("{+^A1 1 A x " + ";@x ".repeat(uses) + "9}");
                Due.ends(m, uses + " uses", 2, 9);
                due("uses", m.told(7), uses);
                due("used more than once", m.told(8), uses > 1 ? 1 : 0);
                due("resumptions", m.told(6), 1);
            }
        });
    }

    private static void handlersAndClauses() {
        of("12 handler the return clause, with its variable bound to v, becomes the focus;", () -> {
            Machine m = Due.loaded("!=x 1 {7 : y +y x}");
            m.run(6);
            Due.kinds(m, "before", 12, 6);
            step(m, "handler", 2, 0, 6);
            step(m, "the return clause", 2, 0, 1, 6);
            step(m, "its variable", 1, 7, 1, 6);
            m.run(1);
            step(m, "the variable around", 1, 1, 2, 6);
        });
        of("v stays the focus if there is none", () -> {
            Machine m = Due.loaded("!{7 A x 1}");
            m.run(3);
            step(m, "handler", 1, 7, 6);
        });
        String clause = "14 clause if its resumption has not been used, and there is a finalizer pending for it (see below), the first such"
                + " one is executed: this frame 14 clause is pushed again, on it a frame 13 after, which remembers v, and the finalizer"
                + " becomes the focus;";
        of(clause, () -> {
            Machine m = Due.loaded("!{%%^A1 !2 !3 A x 9}");
            m.run(6);
            step(m, "the clause", 2, 0, 14, 6);
            step(m, "9", 1, 9, 14, 6);
            step(m, "the first pending one", 2, 0, 13, 14, 6);
            due("remembered", m.frame(0, 1), 9);
            due("uses", m.frame(1, 1), 0);
            m.run(2);
            step(m, "emitted", 1, 2, 13, 14, 6);
            Due.trace(m, "the first finalizer", 2);
            step(m, "after", 1, 9, 14, 6);
            step(m, "the second pending one", 2, 0, 13, 14, 6);
            due("executed", m.told(9), 2);
            m.run(4);
            Due.kinds(m, "with none pending", 14, 6);
            step(m, "the end of the clause", 1, 9, 6);
        });
        of("otherwise v stays the focus If there is no frame", "its resumption has been used", () -> {
            // the use waits for an answer when the run is dropped: what is pending is so for the new clause alone
            Machine m = Due.ran("{%;^A1 ^B2 !3 A x @4}");
            Due.kinds(m, "of the use", 9, 12, 14);
            due("uses", m.frame(2, 1), 1);
            due("drop", m.drop(5), 3);
            Due.ends(Due.ran(m), "a use that was dropped", 2, 5, 3);
            due("executed", m.told(9), 1);
            // a second use of what the first use has executed leaves the clause nothing to do
            m = Due.ran("{%^A1 !3 A x ;@4 5}");
            Due.ends(m, "a use that came to its end", 2, 5, 3);
            due("executed", m.told(9), 1);
        });
        of("otherwise v stays the focus If there is no frame", "there is none pending", () -> {
            Machine m = Due.loaded("!{^A1 A x 9}");
            m.run(5);
            step(m, "9", 1, 9, 14, 6);
            step(m, "the end of the clause", 1, 9, 6);
            due("executed", m.told(9), 0);
        });
    }

    private static void endings() {
        of("If there is no frame, the run has ended with the value v;", () -> {
            for (int v : new int[] {MIN, -2, 0, MAX}) {
                Machine m = Due.ran("!^A1");
                m.answer(v);
                due("with a frame", m.told(0), 1);
                due("without a frame", m.run(1), 2);
                due("value", m.value(), v);
                due("focus", m.focus(), 0);
            }
        });
        String atOnce = "this is no step, and it is so at once, behind the step (or the call of answer()) by which the value has become the"
                + " focus.";
        of(atOnce, "behind a step", () -> {
            Machine m = Due.loaded("5");
            due("run(1)", m.run(1), 2);
            due("steps", m.told(1), 1);
            m = Due.loaded("+1 2");
            due("run(4)", m.run(4), 1);
            due("run(1)", m.run(1), 2);
            due("steps", m.told(1), 5);
            due("no step more", m.run(1), STATE);
            due("steps", m.told(1), 5);
        });
        of(atOnce, "behind answer", () -> {
            Machine m = Due.ran("^A1");
            due("steps", m.told(1), 3);
            due("answer", m.answer(8), 0);
            due("state", m.told(0), 2);
            due("value", m.value(), 8);
            due("steps", m.told(1), 3);
            m = Due.ran("!^A1");
            due("answer with a frame", m.answer(8), 1);
            due("state with a frame", m.told(0), 1);
        });
        of(atOnce, "but not behind drop, which leaves a frame", () -> {
            Machine m = Due.ran("^A1");
            due("drop", m.drop(8), 0);
            due("state", m.told(0), 1);
            due("run", m.run(1), 2);
            due("value", m.value(), 8);
            due("steps", m.told(1), 4);
        });
    }

    // ---- operations

    private static void searches() {
        String masks = "To perform A with the argument v, the frames are gone through from the top on, with a number that is 0 at first: it"
                + " increases by 1 at each frame 8 mask of A.";
        of(masks, "no mask, and as many masks as handlers, and one more", () -> {
            for (int n = 0; n <= 4; n++) {
                String text = "{{{{" + "~A".repeat(n) + "^A8 A x 1} A x 2} A x 3} A x 4}";
                Due.run(text, n < 4 ? 2 : 3, n < 4 ? n + 1 : 8);
            }
        });
        of(masks, "masks of other operations do not count", () -> {
            for (char mask = 'B'; mask <= 'F'; mask++) {
                Due.run("{{~" + mask + "^A8 A x 1} A x 2}", 2, 1);
            }
            Due.run("{{~A~B~A^A8 A x 1 B x 3} A x 2}", 3, 8);
        });
        of(masks, "from the top on: masks below the handler do not count", () -> {
            Due.run("{~A{^A8 A x 1} A x 2}", 2, 1);
            Due.run("{{~A{~A^A8 A x 1} A x 2} A x 3}", 2, 3);
        });
        of("At each frame 12 handler whose handler has a clause for A, it decreases by 1 if it is greater than 0;", () -> {
            Due.run("{{{~A^A8 A x 1} A x 2} A x 3}", 2, 2);
            Due.run("{{{~A^A8 B x 1} A x 2} A x 3}", 2, 3);
            Due.run("{{{~A^A8 : x 1} A x 2} A x 3}", 2, 3);
            Due.run("{{{~A^A8} A x 2} A x 3}", 2, 3);
            // what was masked is used up: the next mask counts anew, and the number is never below 0
            Due.run("{{~A{{~A^A8 A x 1} B x 9} A x 2} A x 3}", 2, 3);
        });
        of("otherwise, this is the handler that is looked for.", () -> {
            Due.run("{{^A8 A x 1} A x 2}", 2, 1);
            Due.run("{{^A8 B x 1} A x 2}", 2, 2);
            Due.run("{{^A8 : x 1} A x 2}", 2, 2);
            Due.run("{^A8 A x ^A+x 1}", 3, 9);
            Due.run("{{^A8 A x ^A+x 1} A x +x 1}", 2, 10);
            Due.run("{{1 : x ^Ax A x 7} A x 2}", 2, 2);
        });
    }

    private static void captures() {
        String captures = "If it is found, a resumption is made that captures all frames from the top one to this handler frame;";
        of(captures, "the handler alone", () -> {
            Machine m = Due.loaded("!{^A1 A x @x}");
            m.run(4);
            Due.kinds(m, "before", 7, 12, 6);
            step(m, "perform", 2, 0, 14, 6);
            due("resumptions", m.told(6), 1);
            m.run(2);
            step(m, "resume", 1, 1, 12, 14, 6);
        });
        of(captures, "the handler and all above it", () -> {
            Machine m = Due.loaded("!{+1 ~B{=y ^A1 y B x 2} A x @x}");
            Due.until(m, 1, 7, 5, 12, 8, 2, 12, 6);
            step(m, "perform", 2, 0, 14, 6);
            m.run(2);
            step(m, "resume", 1, 1, 5, 12, 8, 2, 12, 14, 6);
        });
        of(captures, "99 frames, the most", () -> {
            Machine m = Due.loaded("{" + emits(98) + "^A1 A x @x}");
            m.run(101);
            due("frames before", m.told(2), 100);
            step(m, "perform", 2, 0, 14);
            m.run(2);
            due("resume", m.run(1), 1);
            due("frames", m.told(2), 100);
            due("the one on top", m.frame(0, 0), 6);
            due("the handler", m.frame(98, 0), 12);
            due("the clause", m.frame(99, 0), 14);
        });
        of("they are popped, a frame 14 clause for this resumption is pushed, and the clause becomes the focus, with its variable bound"
                + " to v and the others as they are bound around the handler;", () -> {
            Due.run("=y 3 {=y 4 ^Ay A x +x *y 10}", 2, 34);
            Due.run("=x 3 {=y 4 ^Ay A y +x *y 10}", 2, 43);
            Due.run("=y 3 =z 5 {=y 4 =z 6 ^A+y z A x +*x 100 +y *z 10}", 2, 1053);
            for (int v : new int[] {MIN, -1, MAX}) {
                Machine m = Due.ran("{^A^B1 A x x}");
                m.answer(v);
                Due.ends(Due.ran(m), "the argument", 2, v);
            }
        });
        of("its @ belongs to this resumption.", () -> {
            // two resumptions of one handler: the clause of the second one resumes the second one
            Machine m = Due.loaded("{;!^A1 !^A2 A x @+x 10}");
            Due.ends(Due.ran(m), "two resumptions", 2, 12, 11, 12);
            due("used more than once", m.told(8), 0);
            due("uses", m.told(7), 2);
        });
    }

    private static void openRuns() {
        String open = "If there is no such handler, the run is open: it waits with the operation A and the argument v.";
        of(open, "with no frame, and with frames", () -> {
            for (char a = 'A'; a <= 'F'; a++) {
                Machine m = Due.ran("^" + a + "8");
                due("state", m.told(0), 3);
                due("operation", m.told(10), a - 'A');
                due("argument", m.value(), 8);
                Due.kinds(m, "without a handler");
                m = Due.ran("!+1 ~B{^" + a + "8 : x x}");
                due("operation", m.told(10), a - 'A');
                Due.kinds(m, "that stay", 12, 8, 2, 6);
                due("resumptions", m.told(6), 0);
                due("steps", m.told(1), 9);
            }
        });
        of(open, "it waits", () -> {
            Machine m = Due.ran("!^A8");
            for (int i = 0; i < 3; i++) {
                due("run", m.run(200), STATE);
                due("steps", m.told(1), 4);
                due("argument", m.value(), 8);
            }
        });
    }

    // ---- finalizers

    private static void finalizersOfTheirOwn() {
        of("Each time a frame 9 finalizer is pushed by an expression, this is a finalizer of its own;", () -> {
            Due.run("{;^A1 %5 !2 A x ;@x @4}", 2, 5, 2, 2);
            Machine m = Due.defined(new Machine(), 0, "?x %&0 -x 1 !x 0");
            Due.ends(Due.ran(Due.loaded(m, "&0 3")), "each call has its own", 2, 0, 1, 2, 3);
            due("executed", m.told(9), 3);
        });
        String same = "when frames are pushed again by a resumption, it is the same one, and it is executed at most once.";
        of(same, "executed by the first of three uses", () -> {
            Machine m = Due.ran("{%^A1 !2 A x ;@x ;@4 @5}");
            Due.ends(m, "three uses", 2, 5, 2);
            due("executed", m.told(9), 1);
            due("uses", m.told(7), 3);
        });
        of(same, "executed by the second use, when the first one is left", () -> {
            // B leaves the first use, and executes what it has left; the frame comes back with the second use
            Machine m = Due.ran("{{%;^A1 ^B2 !4 A x ;{@0 B z 8} @1} B y 6}");
            Due.ends(m, "left by an inner handler", 2, 6, 4);
            due("executed", m.told(9), 1);
            due("uses", m.told(7), 2);
        });
        of(same, "executed in a clause, and not again by its frame", () -> {
            // the finalizer of the clause resumes, so that the frame of the other one comes back
            Machine m = Due.ran("{%^A1 !2 A x %3 !@x}");
            Due.ends(m, "the clause's finalizer resumes", 2, 3, 2, 1);
            due("executed", m.told(9), 2);
            // the clause is left with its resumption unused; what is pending is executed once, by the outer clause
            m = Due.ran("{{%^A1 !2 A x ^B3} B x ;!7 8}");
            Due.ends(m, "left by the outer clause", 2, 8, 7, 2);
            due("executed", m.told(9), 1);
        });
    }

    private static void pendingFinalizers() {
        String own = "The finalizers pending for a resumption are, for each of its captured frames, from the top one on: if it is a frame 9"
                + " finalizer which has not been executed, this one;";
        of(own, "from the top one on", () -> {
            Due.run("{%%%^A1 !2 !3 !4 A x 9}", 2, 9, 2, 3, 4);
            Due.run("{^A1 A x 9}", 2, 9);
            Due.run("%{%^A1 !2 A x 9} !3", 2, 9, 2, 3);
        });
        of(own, "which has not been executed", () -> {
            // the first clause executes 2 and is left while it executes 3; the second one need only execute 4
            Due.run("{{%%%^A1 !2 ;!3 ^B5 !4 A x 9} B x 8}", 2, 8, 2, 3, 4);
        });
        of(own, "at the top and at the bottom of 99 frames", () -> {
            Due.run("{%" + "~B".repeat(48) + "^A1 !2 A x 9}", 2, 9, 2);
            Due.run("{" + "~B".repeat(47) + "%^A1 !2 A x 9}", 2, 9, 2);
        });
        String nested = "if it is a frame 14 clause whose resumption has not been used, those pending for this resumption.";
        of(nested, "not used", () -> {
            Due.run("{{%^A1 !2 A x ^B3} B x 8}", 2, 8, 2);
            Due.run("{{%^A1 !2 A x %^B3 !4} B x 8}", 2, 8, 4, 2);
            Due.run("{%{%^A1 !2 A x ^B3} !5 B x 8}", 2, 8, 2, 5);
            Due.run("{{{%^A1 !2 A x ^B3} B x ^C4} C x 8}", 2, 8, 2);
        });
        of(nested, "used", () -> {
            // the resumption was used, and what it pushed again is left: it is pending for the second one alone
            Due.run("{{%;^A1 ^B2 !3 A x ;@4 !5} B x 8}", 2, 8, 3);
            // the use has ended, so that its finalizer was executed; nothing is pending by way of the clause
            Due.run("{{%^A1 !3 A x ;@4 ^B2} B x 8}", 2, 8, 3);
            // a finalizer that performs is left half done; it is not executed again by way of the used clause
            Due.run("{{%^A1 ;!3 ^B2 A x ;@4 5} B x 8}", 2, 8, 3);
        });
        of(nested, "a frame 11 resume is none", () -> {
            // B captures a frame 11 for the outer clause's resumption, which keeps its finalizer
            Due.run("{%^A1 !2 A x !{@^B3 B y 5}}", 2, 5, 5, 2);
            // but it is pending when the clause itself is captured
            Due.run("{{%^A1 !2 A x !@^B3} B y !5}", 2, 5, 5, 2);
        });
        of(nested, "what is pending outside waits until the clause outside goes on", () -> {
            Due.run("{%%^A1 !{^B1 B y 2} !3 A x 9}", 2, 9, 2, 3);
            Due.run("{%%^A1 !{%^B1 !4 B y 2} !3 A x 9}", 2, 9, 4, 2, 3);
            Due.run("{%%^A1 ;{^B1 B y 2} ;{^C1 C y @2} !6 !3 A x 9}", 2, 9, 6, 3);
        });
        String place = "A finalizer has the values of variables, and the resumption of its @, of the place where it stands in the text.";
        of(place, "the values of variables", () -> {
            Due.run("=x 4 %=x 5 x !x", 2, 5, 4);
            Due.run("=x 4 {%=x 5 ^A6 !x A x x}", 2, 6, 4);
            Machine m = Due.defined(new Machine(), 0, "%^A+x 1 !x");
            Due.ends(Due.ran(Due.loaded(m, "=x 1 {&0 7 A x x}")), "of a procedure", 2, 8, 7);
        });
        of(place, "the resumption of its @", () -> {
            Due.run("{+^A10 1 A x %3 !@x}", 2, 3, 11);
            Due.run("{+^A10 1 A x {%^B2 !@x B x 4}}", 2, 4, 11);
        });
    }

    // ---- the limits

    /** All that a run shows, but for its state, its value and its focus. */
    private static String run(Machine m) {
        return Picture.numbers(m).replaceAll("^\\d+ |value \\S+ focus \\d+", "") + Picture.frames(m);
    }

    private static final String DEEP = "The run also ends if a step would lead to more than 100 frames (too deep;";

    private static void tooDeep() {
        of(DEEP, "an expression pushes the 100th frame, and the 101st", () -> {
            String[] kinds = {"+1 2", "-1 2", "*1 2", "<1 2", "?1 2 3", ";1 2", "=x1 2", "!1", "~A1", "%1 2", "&0 1", "{1}", "{1:x2}"};
            for (String each : kinds) {
                Machine m = Due.ran(emits(99) + each);
                due("state of 100 frames with " + each, m.told(0), 2);
                due("the most frames", m.told(3), 100);
                m = Due.ran(emits(100) + each);
                due("state of 101 frames with " + each, m.told(0), 4);
                due("steps", m.told(1), 100);
                due("frames", m.told(2), 100);
                due("the most frames", m.told(3), 100);
            }
            due("^ with 100 frames", Due.ran(emits(99) + "^A1").told(0), 3);
            due("^ with 101 frames", Due.ran(emits(100) + "^A1").told(0), 4);
            due("@ with 100 frames", Due.ran("{^A0 A x " + emits(98) + "@1}").told(0), 2);
            due("@ with 101 frames", Due.ran("{^A0 A x " + emits(99) + "@1}").told(0), 4);
            due("a number needs no frame", Due.ran(emits(100) + "1").told(0), 2);
            due("a variable needs no frame", Due.ran("=x1 " + emits(100) + "x").told(0), 2);
        });
        of(DEEP, "steps that push what they pop", () -> {
            Machine m = Due.defined(new Machine(), 0, "~A".repeat(49) + "&1 x");
            Due.defined(m, 1, "~A".repeat(49) + "&2 x");
            String[] bodies = {"x", "+x 1", "%x !2", "%x 2", "%!x 2", ";x =y5 ?y 7 8", "+!x 1"};
            int[] states = {2, 2, 4, 2, 4, 2, 4};
            int[] values = {7, 8, 0, 7, 0, 7, 0};
            for (int i = 0; i < bodies.length; i++) {
                Due.ran(Due.loaded(Due.defined(m, 2, bodies[i]), "~A&0 7"));
                due("state of 99 frames below " + bodies[i], m.told(0), states[i]);
                due("value", m.value(), values[i]);
                due("the most frames", m.told(3), 100);
            }
        });
        of(DEEP, "a resumption pushes up to the 100th frame, and the 101st", () -> {
            Machine m = Due.ran("{" + emits(98) + "^A1 A x @x}");
            due("99 frames on 1", m.told(0), 2);
            due("the most frames", m.told(3), 100);
            m = Due.ran("{" + emits(98) + "^A1 A x ~B@x}");
            due("99 frames on 2", m.told(0), 4);
            due("not used", m.told(7), 0);
            m = Due.ran("{" + emits(97) + "^A1 A x ~B@x}");
            due("98 frames on 2", m.told(0), 2);
            due("the most frames", m.told(3), 100);
        });
        of(DEEP, "the finalizer of a clause needs one frame more", () -> {
            Machine m = Due.ran("{{%^A1 2A x^B3}B x" + emits(96) + "@x}");
            due("the 100th frame", m.told(0), 2);
            due("the most frames", m.told(3), 100);
            due("executed", m.told(9), 1);
            m = Due.ran("{{%^A1 2A x^B3}B x" + emits(97) + "@x}");
            due("the 101st frame", m.told(0), 4);
            due("not executed", m.told(9), 0);
        });
    }

    private static void tooDeepChangesNothing() {
        of("this step is not made and not counted)", () -> {
            String[] texts = {emits(100) + "!1", emits(100) + "%1 2", emits(100) + "^A1", "{^A0 A x " + emits(99) + "@1}",
                "{" + emits(98) + "^A1 A x ~B@x}", "{{%^A1 2A x^B3}B x" + emits(97) + "@x}"};
            int[] steps = {100, 100, 100, 4 + 99, 1 + 98 + 3 + 3, 12 + 97};
            for (int i = 0; i < texts.length; i++) {
                Machine m = Due.ran(texts[i]);
                due("too deep: " + texts[i], m.told(0), 4);
                int made = m.told(1);
                due("steps of " + texts[i], made, steps[i]);
                Machine before = Due.loaded(texts[i]);
                due("the last step of " + texts[i], before.run(made), 1);
                Due.same("what is there behind the last step of " + texts[i], run(m), run(before));
                due("and then", before.run(1), 4);
                due("no step more", before.run(1), STATE);
                due("value", m.value(), 0);
                due("focus", m.focus(), 0);
                due("answer", m.answer(1), STATE);
            }
        });
    }

    private static final String STEPS = "this step is not made and not counted), or, at once, when 1000 steps have been made and it has not"
            + " ended otherwise and is not open (out of steps).";

    private static void outOfSteps() {
        of(STEPS, "999 and 1000 steps", () -> {
            Machine m = Due.loaded(Due.defined(new Machine(), 0, "&0 x"), "&0 1");
            for (int n = 1; n <= 4; n++) {
                due("run", m.run(200), 1);
            }
            due("999 steps", m.run(199), 1);
            due("told", m.told(1), 999);
            due("focus", m.focus(), 2);
            due("1000 steps", m.run(1), 5);
            due("told", m.told(1), 1000);
            due("focus", m.focus(), 0);
            due("value", m.value(), 0);
            due("no step more", m.run(1), STATE);
            due("told", m.told(1), 1000);
        });
        of(STEPS, "ended by the 999th, by the 1000th and not by the 1001st step", () -> {
            String[] starts = {"&0 !", "&0 ;0", "&0 !!"};
            for (int i = 0; i < 3; i++) {
                Machine m = Due.counting(starts[i], 99, "7");
                due("state of " + starts[i], m.told(0), i < 2 ? 2 : 5);
                due("steps", m.told(1), i < 1 ? 999 : 1000);
                due("value", m.value(), i < 2 ? 7 : 0);
                due("frames", m.told(2), 0);
                due("focus", m.focus(), 0);
            }
        });
        of(STEPS, "open by the 999th, by the 1000th and not by the 1001st step", () -> {
            String[] starts = {"&0", "!&0", "!!&0"};
            for (int i = 0; i < 3; i++) {
                Machine m = Due.counting(starts[i], 99, "^A1");
                due("state of " + starts[i], m.told(0), i < 2 ? 3 : 5);
                due("steps", m.told(1), i < 1 ? 999 : 1000);
                due("operation", m.told(10), i < 2 ? 0 : NONE);
                due("operations", m.told(5), i < 2 ? 1 : 0);
                due("frames", m.told(2), i < 2 ? i : 3);
                due("value", m.value(), i < 2 ? 1 : 0);
            }
        });
        of(STEPS, "too deep instead of the 1000th, but not instead of the 1001st step", () -> {
            String[] starts = {"&0 !", "&0 ;0", "&0 !!"};
            for (int i = 0; i < 3; i++) {
                Machine m = Due.defined(new Machine(), 1, "!&1 x");
                Due.ran(Due.counted(m, starts[i], 59, "&1 x"));
                due("state of " + starts[i], m.told(0), i < 2 ? 4 : 5);
                due("steps", m.told(1), 998 + i);
                due("frames", m.told(2), 100);
            }
        });
        outOfStepsBehindAnOpenRun();
    }

    private static void outOfStepsBehindAnOpenRun() {
        of(STEPS, "an open run of 999 steps goes on for one more", () -> {
            Machine m = Due.counting("!&0 ;0", 98, ";!5 ^A1");
            due("steps with one frame", m.told(1), 998);
            m.answer(6);
            due("the last frame", m.run(200), 2);
            due("steps", m.told(1), 999);
            m = Due.counting("!!!&0 !", 98, ";!5 ^A1");
            due("steps with three frames", m.told(1), 999);
            due("answer", m.answer(6), 3);
            due("it goes on", m.told(0), 1);
            due("one step", m.run(200), 5);
            due("steps", m.told(1), 1000);
            due("two frames stay", m.told(2), 2);
            due("trace", m.told(4), 3);
        });
        of(STEPS, "an open run of 1000 steps is out of steps at once behind answer, unless it has ended", () -> {
            Machine m = Due.counting("!&0", 99, "^A1");
            due("steps", m.told(1), 1000);
            due("answer with a frame", m.answer(5), 1);
            due("state", m.told(0), 5);
            due("operation", m.told(10), NONE);
            due("value", m.value(), 0);
            due("focus", m.focus(), 0);
            due("run", m.run(1), STATE);
            m = Due.counting("&0 ~F~F~F~F", 98, "=a 0 ^A1");
            due("steps", m.told(1), 1000);
            due("answer without a frame", m.answer(5), 0);
            due("state", m.told(0), 2);
            due("value", m.value(), 5);
        });
        of(STEPS, "an open run of 1000 steps is out of steps at once behind drop", () -> {
            Machine m = Due.counting("&0 ~F~F~F~F", 98, "=a 0 ^A1");
            due("steps", m.told(1), 1000);
            due("drop", m.drop(5), 0);
            due("state", m.told(0), 5);
            Due.kinds(m, "behind drop", 14);
            due("value", m.value(), 0);
            due("run", m.run(1), STATE);
            m = Due.counting("&0", 99, "^A1");
            due("steps", m.told(1), 999);
            due("drop", m.drop(5), 0);
            due("state", m.told(0), 1);
            due("the last step", m.run(200), 2);
            due("value", m.value(), 5);
            due("steps", m.told(1), 1000);
        });
    }

    private static void trace() {
        of("The trace keeps the first 60 values.", () -> {
            for (int n : new int[] {1, 59, 60, 61}) {
                // the procedure emits 0, 1, 2 and so on
                Machine m = Due.defined(new Machine(), 0, "?<x " + n + " &0 +!x 1 x");
                Due.ran(Due.loaded(m, "&0 0"));
                due("state", m.told(0), 2);
                due("value", m.value(), n);
                int kept = Math.min(n, 60);
                due("values in the trace", m.told(4), kept);
                for (int k = 0; k < kept; k++) {
                    due("trace " + k, m.trace(k), k);
                }
                due("trace behind the last one", m.trace(kept), NONE);
                due("trace 60", m.trace(60), NONE);
            }
        });
        of("The trace keeps the first 60 values.", "what is not kept stays the focus", () -> {
            Machine m = Due.loaded(emits(62) + "7");
            m.run(63 + 60);
            due("values", m.told(4), 60);
            step(m, "the 61st", 1, 7, 6);
            due("values", m.told(4), 60);
            step(m, "the 62nd", 0, 7);
            due("values", m.told(4), 60);
            due("trace(59)", m.trace(59), 7);
            due("trace(60)", m.trace(60), NONE);
        });
    }

    private static void states() {
        of("The state of the run is: 0 nothing has been loaded;", () -> {
            due("state", new Machine().told(0), 0);
            due("state behind define", Due.defined(new Machine(), 0, "1").told(0), 0);
            Machine m = Due.text(new Machine(), "x");
            m.load();
            due("state behind a load that failed", m.told(0), 0);
        });
        of("1 it goes on;", () -> {
            Machine m = Due.loaded("+1 2");
            due("state behind load", m.told(0), 1);
            due("state behind the last but one step", m.run(4), 1);
        });
        of("2 it has ended with a value;", () -> {
            Machine m = Due.loaded("+1 2");
            due("state behind the last step", m.run(5), 2);
        });
        of("3 it is open;", () -> {
            Machine m = Due.loaded("^A1");
            due("state before the operation", m.run(2), 1);
            due("state behind the operation", m.run(1), 3);
        });
        of("4 too deep;", () -> {
            Machine m = Due.loaded(emits(101) + "1");
            due("state with 100 frames", m.run(100), 1);
            due("state with what would be 101", m.run(1), 4);
        });
        of("5 out of steps.", () -> {
            Machine m = Due.loaded(Due.defined(new Machine(), 0, "&0 x"), "&0 1");
            for (int n = 1; n <= 4; n++) {
                m.run(200);
            }
            due("state behind 999 steps", m.run(199), 1);
            due("state behind 1000 steps", m.run(1), 5);
        });
    }
}
