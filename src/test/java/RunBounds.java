import java.util.function.ToIntFunction;

/** Promises 11 to 20. */
final class RunBounds {
    private static final int BAD = Due.BAD, STATE = Due.STATE, NONE = Due.NONE;
    private static final int MIN = Integer.MIN_VALUE, MAX = Integer.MAX_VALUE;

    private RunBounds() {
    }

    private static void due(String what, long got, long want) {
        Due.due(what, got, want);
    }

    private static void of(int promise, String words, String remark, Runnable test) {
        Sentences.of("Promise " + promise, words, remark, test);
    }

    private static void of(int promise, String words, Runnable test) {
        of(promise, words, "", test);
    }

    static void all() {
        run();
        runsThatAreRefused();
        answer();
        drop();
        numbersOfTheRun();
        numbersOfOperations();
        numbersBesideTheRun();
        toldThatIsRefused();
        value();
        focus();
        trace();
        performed();
        frame();
        propertiesOfFrames();
        handler();
    }

    /** A call that only looks changes nothing, whatever is the state. */
    private static void changesNothing(String call, ToIntFunction<Machine> made) {
        for (Picture.Subject each : Subjects.all()) {
            each.unchangedBy(call, made, made.applyAsInt(each.made()));
        }
    }

    /** A call that is refused in every state, and changes nothing. */
    private static void isBad(String call, ToIntFunction<Machine> made) {
        for (Picture.Subject each : Subjects.all()) {
            each.unchangedBy(call, made, BAD);
        }
    }

    // ---- promises 11 to 13

    private static void run() {
        of(11, "Makes steps until the run does not go on, but at most n.", "at most n", () -> {
            for (int n : new int[] {1, 2, 3, 7, 199, 200}) {
                Machine m = Due.loaded(Due.defined(new Machine(), 0, "&0 x"), "&0 1");
                due("run(" + n + ")", m.run(n), 1);
                due("steps", m.told(1), n);
                due("run(" + n + ") again", m.run(n), 1);
                due("steps", m.told(1), 2 * n);
            }
        });
        of(11, "Makes steps until the run does not go on, but at most n.", "until the run does not go on", () -> {
            for (int n = 3; n <= 8; n++) {
                Machine m = Due.loaded("-+3 4 5");
                due("run(" + n + ") of 9 steps", m.run(n), 1);
                due("steps", m.told(1), n);
                due("run(200)", m.run(200), 2);
                due("steps", m.told(1), 9);
            }
            Machine m = Due.loaded("-+3 4 5");
            due("run(9) of 9 steps", m.run(9), 2);
            m = Due.loaded("!^A1");
            due("run(3) of an open run", m.run(3), 1);
            due("run(1)", m.run(1), 3);
            m = Due.loaded("!".repeat(101) + "1");
            due("run(200) of one that is too deep", m.run(200), 4);
            due("steps", m.told(1), 100);
        });
        of(11, "Makes steps until the run does not go on, but at most n.", "and leaves the text, the procedures and the images", () -> {
            for (Picture.Subject each : new Picture.Subject[] {Subjects.GOING, Subjects.VALUE}) {
                Picture.Subject kept = new Picture.Subject("is kept and " + each.name, () -> {
                    Machine m = each.made();
                    m.keep(0);
                    return m;
                });
                kept.unchangedBy("run and back", m -> {
                    int state = m.run(200);
                    m.back(0);
                    return state;
                }, 2);
            }
        });
        of(11, "Makes steps until the run does not go on, but at most n.", "all at once or one by one", () -> {
            Machine all = Subjects.GOING.made();
            Machine each = Subjects.GOING.made();
            due("run(12)", all.run(12), 1);
            for (int n = 0; n < 12; n++) {
                due("run(1)", each.run(1), 1);
            }
            Due.same("12 steps", Picture.numbers(each) + Picture.frames(each), Picture.numbers(all) + Picture.frames(all));
        });
        of(11, "- `n`: the number of steps, 1 to 200", () -> {
            Machine m = Due.loaded(Due.defined(new Machine(), 0, "&0 x"), "&0 1");
            due("run(0)", m.run(0), BAD);
            due("run(1)", m.run(1), 1);
            due("steps", m.told(1), 1);
            due("run(200)", m.run(200), 1);
            due("steps", m.told(1), 201);
            due("run(201)", m.run(201), BAD);
            due("steps", m.told(1), 201);
        });
        of(11, "Returns the state of the run then;", () -> {
            due("it goes on", Due.loaded("!1").run(1), 1);
            due("ended", Due.loaded("!1").run(3), 2);
            due("open", Due.loaded("^A1").run(3), 3);
            due("too deep", Due.loaded("!".repeat(101) + "1").run(101), 4);
            Machine m = Due.loaded(Due.defined(new Machine(), 0, "&0 x"), "&0 1");
            for (int n = 1; n <= 5; n++) {
                due("run(200)", m.run(200), n < 5 ? 1 : 5);
            }
        });
    }

    private static void runsThatAreRefused() {
        of(11, "BAD if n is out of range;", () -> {
            for (int bad : new int[] {0, -1, 201, 256, MIN, MAX}) {
                isBad("run(" + bad + ")", m -> m.run(bad));
            }
        });
        of(11, "STATE if the state is not 1.", () -> {
            for (Picture.Subject each : Subjects.allBut(Subjects.GOING, Subjects.VALUE)) {
                each.unchangedBy("run(1)", m -> m.run(1), STATE);
                each.unchangedBy("run(200)", m -> m.run(200), STATE);
            }
            due("run(1) of one that goes on", Subjects.GOING.made().run(1), 1);
            due("run(1) of one that goes on", Subjects.VALUE.made().run(1), 1);
        });
    }

    private static void answer() {
        of(12, "Answers the operation of an open run: the value becomes the focus, and the run goes on.", () -> {
            Machine m = Due.ran("+!^A1 ^B2");
            String frames = Picture.frames(m);
            due("answer", m.answer(7), 2);
            due("state", m.told(0), 1);
            due("focus", m.focus(), 1);
            due("value", m.value(), 7);
            due("operation", m.told(10), NONE);
            due("steps", m.told(1), 5);
            due("operations", m.told(5), 1);
            due("resumptions", m.told(6), 0);
            Due.same("the frames", Picture.frames(m), frames);
            due("run to the next operation", m.run(200), 3);
            due("answer", m.answer(8), 1);
            Due.ends(Due.ran(m), "answered twice", 2, 15, 7);
        });
        of(12, "Answers the operation of an open run: the value becomes the focus, and the run goes on.", "the rest stays", () -> {
            Picture.Subject kept = new Picture.Subject("is kept and is open", () -> {
                Machine m = Subjects.OPEN.made();
                m.keep(0);
                return m;
            });
            kept.unchangedBy("answer and back", m -> {
                int frames = m.answer(7);
                m.back(0);
                return frames;
            }, 3);
        });
        of(12, "- `v`: the value", () -> {
            for (int v : new int[] {MIN, MIN + 1, -9, -3, -2, -1, 0, 1, MAX}) {
                Machine m = Due.ran("!^A1");
                due("answer(" + v + ")", m.answer(v), 1);
                due("value", m.value(), v);
                Due.ends(Due.ran(m), "answered with " + v, 2, v, v);
            }
        });
        of(12, "Returns the number of frames;", () -> {
            for (int n : new int[] {0, 1, 2, 98, 99}) {
                Machine m = Due.ran("!".repeat(n) + "^A1");
                due("answer with " + n + " frames", m.answer(5), n);
                due("frames", m.told(2), n);
                due("state", m.told(0), n == 0 ? 2 : 1);
            }
        });
        of(12, "STATE if the run is not open.", () -> {
            for (Picture.Subject each : Subjects.allBut(Subjects.OPEN)) {
                each.unchangedBy("answer(0)", m -> m.answer(0), STATE);
                each.unchangedBy("answer(MIN)", m -> m.answer(MIN), STATE);
            }
            Machine m = Subjects.OPEN.made();
            due("answer of an open run", m.answer(0), 3);
            due("answer once more", m.answer(0), STATE);
        });
    }

    private static void drop() {
        of(13, "Drops an open run: a resumption captures all frames;", () -> {
            Machine m = Due.ran("{%%!^C1 !2 !3 A x x}");
            due("drop", m.drop(9), 4);
            due("resumptions", m.told(6), 1);
            due("uses", m.told(7), 0);
            due("uses of the clause's one", m.frame(0, 1), 0);
            Due.ends(Due.ran(m), "what was pending", 2, 9, 2, 3);
            due("executed", m.told(9), 2);
        });
        of(13, "Drops an open run: a resumption captures all frames;", "none at all", () -> {
            Machine m = Due.ran("^A1");
            due("drop", m.drop(9), 0);
            due("resumptions", m.told(6), 1);
            Due.kinds(m, "behind drop", 14);
            due("the most frames", m.told(3), 1);
            Due.ends(Due.ran(m), "nothing was pending", 2, 9);
        });
        of(13, "they are popped, a frame 14 clause for this resumption is pushed, the value becomes the focus, and the run goes on.", () -> {
            Machine m = Due.ran("!%!^A1 !5");
            int steps = m.told(1);
            due("drop", m.drop(9), 3);
            due("state", m.told(0), 1);
            due("focus", m.focus(), 1);
            due("value", m.value(), 9);
            due("operation", m.told(10), NONE);
            due("steps", m.told(1), steps);
            due("operations", m.told(5), 1);
            due("the most frames", m.told(3), 4);
            Due.kinds(m, "behind drop", 14);
            Due.step(m, "the pending finalizer", 2, 0, 13, 14);
            Due.step(m, "emit", 2, 0, 6, 13, 14);
        });
        of(13, "they are popped, a frame 14 clause for this resumption is pushed, the value becomes the focus, and the run goes on.",
                "the rest stays", () -> {
            Picture.Subject kept = new Picture.Subject("is kept and is open", () -> {
                Machine m = Subjects.OPEN.made();
                m.keep(0);
                return m;
            });
            kept.unchangedBy("drop and back", m -> {
                int frames = m.drop(7);
                m.run(200);
                m.back(0);
                return frames;
            }, 3);
        });
        of(13, "- `v`: the value", () -> {
            for (int v : new int[] {MIN, MIN + 1, -9, -3, -2, -1, 0, 1, MAX}) {
                Machine m = Due.ran("!^A1");
                due("drop(" + v + ")", m.drop(v), 1);
                due("value", m.value(), v);
                Due.ends(Due.ran(m), "dropped with " + v, 2, v);
            }
        });
        of(13, "Returns the number of frames that are captured;", () -> {
            for (int n : new int[] {0, 1, 2, 98, 99}) {
                Machine m = Due.ran("!".repeat(n) + "^A1");
                due("drop with " + n + " frames", m.drop(5), n);
                due("frames", m.told(2), 1);
                due("state", m.told(0), 1);
            }
        });
        of(13, "STATE if the run is not open.", () -> {
            for (Picture.Subject each : Subjects.allBut(Subjects.OPEN)) {
                each.unchangedBy("drop(0)", m -> m.drop(0), STATE);
                each.unchangedBy("drop(MIN)", m -> m.drop(MIN), STATE);
            }
            Machine m = Subjects.OPEN.made();
            due("drop of an open run", m.drop(0), 3);
            due("drop once more", m.drop(0), STATE);
        });
    }

    // ---- promise 14

    private static void numbersOfTheRun() {
        of(14, "Returns a number of the run.", "and changes nothing", () -> {
            for (int what = 0; what <= 12; what++) {
                int asked = what;
                changesNothing("told(" + what + ")", m -> m.told(asked));
            }
        });
        of(14, "- `what`: 0 its state;", () -> {
            int[] states = {0, 0, 1, 1, 2, 3, 4, 5};
            for (int i = 0; i < states.length; i++) {
                due("told(0) of a machine that " + Subjects.all()[i].name, Subjects.all()[i].made().told(0), states[i]);
            }
        });
        of(14, "1 steps;", () -> {
            Machine m = Due.loaded("!^A1");
            for (int n = 0; n < 4; n++) {
                due("steps", m.told(1), n);
                m.run(1);
            }
            due("steps", m.told(1), 4);
            m.answer(5);
            due("answer is no step", m.told(1), 4);
            m.run(200);
            due("steps", m.told(1), 5);
        });
        of(14, "2 frames;", () -> {
            for (int n : new int[] {0, 1, 99, 100}) {
                Machine m = Due.loaded("!".repeat(n) + "1");
                m.run(Math.max(n, 1));
                due("frames", m.told(2), n);
            }
        });
        of(14, "3 the greatest number of frames so far;", () -> {
            Machine m = Due.loaded("+!!!1 ~A2");
            int[] most = {1, 2, 3, 4, 4, 4, 4, 4, 4, 4, 4, 4, 4, 4, 4};
            int[] frames = {1, 2, 3, 4, 4, 3, 2, 1, 1, 2, 2, 1, 0};
            for (int n = 0; n < frames.length; n++) {
                m.run(1);
                due("frames behind step " + (n + 1), m.told(2), frames[n]);
                due("the most frames behind step " + (n + 1), m.told(3), most[n]);
            }
            m.restart();
            due("the most frames of the next run", m.told(3), 0);
            due("the most frames there can be", Due.ran("!".repeat(101) + "1").told(3), 100);
        });
        of(14, "4 values in the trace;", () -> {
            Machine m = Due.loaded("!!1");
            m.run(3);
            due("no value", m.told(4), 0);
            m.run(1);
            due("one value", m.told(4), 1);
            m.run(1);
            due("two values", m.told(4), 2);
            due("59 values", Due.ran("!".repeat(59) + "1").told(4), 59);
            due("60 values", Due.ran("!".repeat(60) + "1").told(4), 60);
            due("61 values", Due.ran("!".repeat(61) + "1").told(4), 60);
        });
    }

    private static void numbersOfOperations() {
        of(14, "5 operations that were performed (handled or not);", () -> {
            Machine m = Due.loaded("{+^A1 ^F2 A x @x}");
            m.run(4);
            due("none", m.told(5), 0);
            m.run(1);
            due("a handled one", m.told(5), 1);
            Due.ran(m);
            due("one that is not handled", m.told(5), 2);
            m.answer(1);
            due("answer is none", m.told(5), 2);
        });
        of(14, "6 resumptions that were made;", () -> {
            Machine m = Due.ran("{+^A1 +^A2 ^F3 A x @x}");
            due("by handled operations", m.told(6), 2);
            m.drop(1);
            due("by drop", m.told(6), 3);
            Due.ran(m);
            due("at the end", m.told(6), 3);
            due("without handlers", Due.ran("^A1").told(6), 0);
        });
        of(14, "7 how often resumptions were used;", () -> {
            due("not at all", Due.ran("{^A1 A x x}").told(7), 0);
            due("once", Due.ran("{^A1 A x @x}").told(7), 1);
            due("three times", Due.ran("{^A1 A x +@1 +@2 @3}").told(7), 3);
            due("three, once each", Due.ran("{+^A1 +^A2 ^A3 A x @x}").told(7), 3);
        });
        of(14, "8 resumptions that were used more than once;", () -> {
            due("not at all", Due.ran("{^A1 A x x}").told(8), 0);
            due("once", Due.ran("{^A1 A x @x}").told(8), 0);
            due("three, once each", Due.ran("{+^A1 +^A2 ^A3 A x @x}").told(8), 0);
            due("twice", Due.ran("{^A1 A x +@1 @2}").told(8), 1);
            due("three times", Due.ran("{^A1 A x +@1 +@2 @3}").told(8), 1);
            due("two, twice each", Due.ran("{+^A1 {^B2 B x +@1 @2} A x +@1 @2}").told(8), 3);
        });
        of(14, "9 finalizers that were executed;", () -> {
            due("none", Due.ran("1").told(9), 0);
            due("one", Due.ran("%1 2").told(9), 1);
            due("two", Due.ran("%%1 2 3").told(9), 2);
            due("one of a clause", Due.ran("{%^A1 2 A x 3}").told(9), 1);
            due("one, with two uses", Due.ran("{%^A1 2 A x +@1 @2}").told(9), 1);
            Machine m = Due.loaded("%1 2");
            m.run(2);
            due("not yet", m.told(9), 0);
            m.run(1);
            due("begun", m.told(9), 1);
        });
        of(14, "10 the operation with which it is open, 0 for A to 5 for F (NONE if it is not open);", () -> {
            for (char a = 'A'; a <= 'F'; a++) {
                Machine m = Due.loaded("!^" + a + "1");
                due("before", m.told(10), NONE);
                m.run(3);
                due("just before", m.told(10), NONE);
                m.run(1);
                due("open", m.told(10), a - 'A');
                m.answer(1);
                due("answered", m.told(10), NONE);
                Due.ran(m);
                due("ended", m.told(10), NONE);
                due("dropped", drop(Due.ran("!^" + a + "1")).told(10), NONE);
            }
            for (Picture.Subject each : Subjects.allBut(Subjects.OPEN)) {
                due("operation of a machine that " + each.name, each.made().told(10), NONE);
            }
        });
    }

    private static Machine drop(Machine m) {
        due("drop", m.drop(1), 1);
        return m;
    }

    private static void numbersBesideTheRun() {
        of(14, "11 bytes of the text;", () -> {
            Machine m = new Machine();
            due("none", m.told(11), 0);
            m.write('1');
            due("one", m.told(11), 1);
            Due.text(m, "!".repeat(120));
            due("120", m.told(11), 120);
            m.write('1');
            due("120 still", m.told(11), 120);
            m.wipe();
            due("none again", m.told(11), 0);
        });
        of(14, "12 procedures that are defined", () -> {
            Machine m = Due.text(new Machine(), "x");
            for (int p = 0; p <= 4; p++) {
                due("procedures", m.told(12), p);
                due("define(" + p + ")", m.define(p), p < 4 ? 1 : BAD);
            }
            due("all of them", m.told(12), 4);
            m.define(2);
            due("all of them still", m.told(12), 4);
            m.undefine(2);
            due("one less", m.told(12), 3);
            m.undefine(2);
            due("one less still", m.told(12), 3);
        });
    }

    private static void toldThatIsRefused() {
        of(14, "Returns the number (for 1 to 9, 0 if nothing has been loaded);", () -> {
            for (Picture.Subject each : new Picture.Subject[] {Subjects.NEW, Subjects.UNLOADED}) {
                for (int what = 1; what <= 9; what++) {
                    due("told(" + what + ") of a machine that " + each.name, each.made().told(what), 0);
                }
            }
            // a machine that goes back to nothing has no numbers of a run either
            Machine m = Subjects.UNLOADED.made();
            Due.ran(Due.loaded(m, "{;!1 ;%^A2 3 %^A2 3 A x ;@1 @2}"));
            for (int what = 1; what <= 9; what++) {
                due("a number of the run, " + what, m.told(what) > 0 || what == 2 ? 1 : 0, 1);
            }
            m.back(1);
            for (int what = 1; what <= 9; what++) {
                due("told(" + what + ") of nothing again", m.told(what), 0);
            }
        });
        of(14, "BAD if what is out of range.", () -> {
            for (int bad : new int[] {-1, 13, MIN, MAX}) {
                isBad("told(" + bad + ")", m -> m.told(bad));
            }
            due("told(0)", new Machine().told(0), 0);
            due("told(12)", new Machine().told(12), 0);
        });
    }

    // ---- promises 15 to 18

    private static void value() {
        of(15, "Returns the value of the run: the one with which it has ended, or the argument with which it is open, or the focus, if the"
                + " run goes on and the focus is a value.", () -> {
            Machine m = Due.loaded("!^A8");
            m.run(3);
            due("the focus", m.value(), 8);
            m.run(1);
            due("the argument", m.value(), 8);
            m.answer(9);
            due("the answer", m.value(), 9);
            m.run(1);
            due("the end", m.value(), 9);
        });
        of(15, "Returns the value; 0 in all other cases.", "the least and the greatest value", () -> {
            for (int v : new int[] {MIN, -1, 0, 1, MAX}) {
                Machine m = Due.ran("=x ^A1 !^Bx");
                m.answer(v);
                due("the focus", m.value(), v);
                m.run(1);
                due("an expression", m.value(), 0);
                Due.ran(m);
                due("the argument", m.value(), v);
                m.answer(v);
                Due.ran(m);
                due("the end", m.value(), v);
            }
        });
        of(15, "0 in all other cases.", () -> {
            due("nothing loaded", new Machine().value(), 0);
            due("an expression", Due.loaded("7").value(), 0);
            Machine m = Due.loaded("+7 8");
            m.run(3);
            due("an expression behind a value", m.value(), 0);
            due("too deep", Due.ran("=x 7 " + "!".repeat(101) + "x").value(), 0);
            m = Due.ran("{" + "!".repeat(98) + "^A7 A x !@x}");
            due("too deep with a value", m.value(), 0);
            due("too deep", m.told(0), 4);
            m = Due.counting("&0 !!", 99, "7");
            due("out of steps with a value", m.value(), 0);
            due("out of steps", m.told(0), 5);
            m = Due.ran("7");
            m.restart();
            due("begun anew", m.value(), 0);
        });
        of(15, "0 in all other cases.", "and changes nothing", () -> changesNothing("value", Machine::value));
    }

    private static void focus() {
        of(16, "Tells what the focus is.", "and changes nothing", () -> changesNothing("focus", Machine::focus));
        of(16, "Returns 0 nothing (the run does not go on);", () -> {
            for (Picture.Subject each : Subjects.allBut(Subjects.GOING, Subjects.VALUE)) {
                due("focus of a machine that " + each.name, each.made().focus(), 0);
            }
            Machine m = Due.ran("{" + "!".repeat(98) + "^A7 A x !@x}");
            due("too deep with a value", m.focus(), 0);
        });
        of(16, "1 a value;", () -> {
            Machine m = Due.loaded("!7");
            m.run(2);
            due("a value", m.focus(), 1);
            m.run(1);
            due("the last value", m.focus(), 0);
        });
        of(16, "2 an expression.", () -> {
            Machine m = Due.loaded("7");
            due("the main expression", m.focus(), 2);
            m = Due.loaded("!7");
            m.run(1);
            due("the first expression", m.focus(), 2);
        });
    }

    private static void trace() {
        of(17, "Returns a value of the trace.", "and changes nothing", () -> {
            changesNothing("trace(0)", m -> m.trace(0));
            changesNothing("trace(60)", m -> m.trace(60));
        });
        of(17, "- `k`: the index of the value, from 0", () -> {
            Machine m = Due.ran(";!5 ;!6 !7");
            due("trace(-1)", m.trace(-1), BAD);
            due("trace(0)", m.trace(0), 5);
            due("trace(1)", m.trace(1), 6);
            due("trace(2)", m.trace(2), 7);
        });
        of(17, "Returns the value;", () -> {
            for (int v : new int[] {MIN, -9, -1, 0, MAX}) {
                Machine m = Due.ran("!^A1");
                m.answer(v);
                Due.ran(m);
                due("trace(0)", m.trace(0), v);
            }
        });
        of(17, "NONE if there are not so many;", () -> {
            due("of a new object", new Machine().trace(0), NONE);
            for (int n : new int[] {0, 1, 2, 59, 60, 61}) {
                Machine m = Due.ran("!".repeat(n) + "7");
                int kept = Math.min(n, 60);
                due("the last one of " + n, kept == 0 ? 7 : m.trace(kept - 1), 7);
                due("behind the last one of " + n, m.trace(kept), NONE);
                due("far behind it", m.trace(MAX), NONE);
            }
            // a shorter trace does not show what a longer one has left
            Machine m = Due.ran(";!5 ;!6 !7");
            m.restart();
            due("begun anew", m.trace(0), NONE);
            m.run(4);
            due("the first one", m.trace(0), 5);
            due("the second one", m.trace(1), NONE);
        });
        of(17, "BAD if k is negative.", () -> {
            isBad("trace(-1)", m -> m.trace(-1));
            isBad("trace(MIN)", m -> m.trace(MIN));
        });
    }

    private static void performed() {
        of(18, "Counts how often an operation was performed in this run.", () -> {
            Machine m = Due.ran("{;^A1 ;^A2 ;^B3 ^F4 A x @x}");
            int[] numbers = {2, 1, 0, 0, 0, 0};
            for (int a = 0; a < 6; a++) {
                due("performed(" + a + ")", m.performed(a), numbers[a]);
            }
            m.answer(1);
            Due.ran(m);
            due("F", m.performed(5), 1);
            m.restart();
            due("A in the next run", m.performed(0), 0);
            m.run(200);
            due("A in the next run", m.performed(0), 2);
        });
        of(18, "Counts how often an operation was performed in this run.", "and changes nothing", () ->
                changesNothing("performed(0)", m -> m.performed(0)));
        of(18, "- `a`: the operation, 0 for A to 5 for F", () -> {
            for (int a = 0; a < 6; a++) {
                Machine m = Due.ran("^" + (char) ('A' + a) + "1");
                for (int b = 0; b < 6; b++) {
                    due("performed(" + b + ")", m.performed(b), a == b ? 1 : 0);
                }
            }
        });
        of(18, "Returns the number;", () -> {
            due("none", new Machine().performed(0), 0);
            Machine m = Due.loaded(Due.defined(new Machine(), 0, ";^Fx &0 x"), "&0 1");
            for (int n = 0; n < 100; n++) {
                due("performed", m.performed(5), n);
                due("open once more", m.run(200), 3);
                m.answer(1);
            }
            due("performed", m.performed(5), 100);
        });
        of(18, "BAD if a is out of range.", () -> {
            for (int bad : new int[] {-1, 6, MIN, MAX}) {
                isBad("performed(" + bad + ")", m -> m.performed(bad));
            }
        });
    }

    // ---- promises 19 and 20

    private static void frame() {
        of(19, "Returns a property of a frame.", "and changes nothing", () -> {
            changesNothing("frame(0, 0)", m -> m.frame(0, 0));
            changesNothing("frame(1, 1)", m -> m.frame(1, 1));
        });
        of(19, "- `k`: the index of the frame, 0 for the one on top", () -> {
            Machine m = Due.loaded("!~C%&2 1 1");
            m.run(4);
            int[] kinds = {10, 9, 8, 6};
            for (int k = 0; k < 4; k++) {
                due("frame " + k, m.frame(k, 0), kinds[k]);
            }
            due("frame -1", m.frame(-1, 0), BAD);
            due("frame 4", m.frame(4, 0), BAD);
        });
        of(19, "- `what`: 0 its kind, 1 to 14;", () -> {
            Machine m = Due.loaded("{?;=x!7x%!1 2~B+&0 ^A1 2 3A x!%@1 2}");
            boolean[] seen = new boolean[15];
            for (int n = 0; n < 60 && m.told(0) == 1; n++) {
                m.run(1);
                for (int k = 0; k < 4 && k < m.told(2); k++) {
                    seen[Math.max(0, m.frame(k, 0))] = true;
                }
                if (m.told(0) == 3) {
                    m.answer(1);
                }
            }
            for (int kind = 1; kind <= 14; kind++) {
                due("kind " + kind + " was seen", seen[kind] ? 1 : 0, 1);
            }
            due("another kind was seen", seen[0] ? 1 : 0, 0);
        });
        of(19, "Returns the property; BAD if there is no such frame or what is out of range.", "there is no such frame", () -> {
            for (int n : new int[] {0, 1, 99, 100}) {
                Machine m = Due.loaded("!".repeat(n) + "7");
                m.run(n + 1);
                int k = m.told(2);
                due("frames", k, n);
                due("the last frame", n == 0 ? 6 : m.frame(k - 1, 0), 6);
                due("behind it", m.frame(k, 0), BAD);
                due("behind it", m.frame(k, 1), BAD);
                due("far behind it", m.frame(MAX, 0), BAD);
                due("before the first one", m.frame(-1, 0), BAD);
                due("far before the first one", m.frame(MIN, 1), BAD);
            }
            isBad("frame(told(2), 0)", m -> m.frame(m.told(2), 0));
            isBad("frame(told(2), 1)", m -> m.frame(m.told(2), 1));
            isBad("frame(-1, 1)", m -> m.frame(-1, 1));
            // a frame that was popped is no frame
            Machine m = Due.loaded("!!7");
            m.run(3);
            due("two frames", m.frame(1, 0), 6);
            m.run(1);
            due("one frame", m.frame(1, 0), BAD);
        });
        of(19, "BAD if there is no such frame or what is out of range.", "what is out of range", () -> {
            for (int bad : new int[] {-1, 2, MIN, MAX}) {
                isBad("frame(0, " + bad + ")", m -> m.frame(0, bad));
                isBad("frame(MAX, " + bad + ")", m -> m.frame(MAX, bad));
            }
        });
    }

    private static void propertiesOfFrames() {
        of(19, "1 the operation, 0 for A to 5 for F, of a frame 7 perform and 8 mask;", () -> {
            for (char a = 'A'; a <= 'F'; a++) {
                Machine m = Due.loaded("~" + a + "^" + a + "1");
                m.run(2);
                Due.kinds(m, "of " + a, 7, 8);
                due("perform", m.frame(0, 1), a - 'A');
                due("mask", m.frame(1, 1), a - 'A');
            }
        });
        of(19, "the procedure of a frame 10 call;", () -> {
            for (char p = '0'; p <= '3'; p++) {
                Machine m = Due.loaded("&" + p + "1");
                m.run(1);
                due("call", m.frame(0, 1), p - '0');
            }
        });
        of(19, "the remembered value of a frame 2 right and 13 after;", () -> {
            for (int v : new int[] {MIN, -9, -1, 0, MAX}) {
                Machine m = Due.ran("=x ^A1 +x %x 1");
                m.answer(v);
                Due.until(m, 2, 13, 2);
                due("after", m.frame(0, 1), v);
                due("right", m.frame(1, 1), v);
            }
        });
        of(19, "the number of clauses for operations of a frame 12 handler;", () -> {
            String[] texts = {"{1}", "{1:x2}", "{1Fx2}", "{1Ax2:y3}", "{1Ax2Bx3Cx4Dx5Ex6Fx7}", "{1Ax2Bx3Cx4Dx5Ex6Fx7:x8}"};
            int[] numbers = {0, 0, 1, 1, 6, 6};
            for (int i = 0; i < texts.length; i++) {
                Machine m = Due.loaded(texts[i]);
                m.run(1);
                due("clauses of " + texts[i], m.frame(0, 1), numbers[i]);
            }
        });
        of(19, "how often the resumption of a frame 11 resume and 14 clause has been used;", () -> {
            Machine m = Due.loaded("{^A1 A x ;@1 ;@2 @3}");
            for (int uses = 0; uses < 3; uses++) {
                if (uses < 2) {
                    Due.until(m, 2, 11, 4, 14);
                } else {
                    Due.until(m, 2, 11, 14);
                }
                due("resume", m.frame(0, 1), uses);
                due("clause", m.frame(uses < 2 ? 2 : 1, 1), uses);
                m.run(2);
            }
            Due.until(m, 1, 14);
            due("clause at the end", m.frame(0, 1), 3);
            // a use is counted when the frame is popped, not when it is pushed
            m = Due.loaded("{^A1 A x @@x}");
            Due.until(m, 1, 11, 11, 14);
            due("resume", m.frame(0, 1), 0);
            due("resume below", m.frame(1, 1), 0);
            m.run(1);
            Due.kinds(m, "once", 12, 11, 14);
            due("resume below", m.frame(1, 1), 1);
            due("clause", m.frame(2, 1), 1);
            due("the clause of a dropped run", drop(Due.ran("!^A1")).frame(0, 1), 0);
        });
        of(19, "whether the finalizer of a frame 9 has been executed (1 or 0);", () -> {
            Machine m = Due.loaded("{%^A1 2 A x ;@1 @2}");
            Due.until(m, 1, 7, 9, 12);
            due("not executed", m.frame(1, 1), 0);
            Due.until(m, 1, 9, 12, 4, 14);
            due("not executed", m.frame(0, 1), 0);
            Due.until(m, 1, 9, 12, 14);
            due("executed", m.frame(0, 1), 1);
        });
        of(19, "NONE for others", () -> {
            String[] texts = {"+7 1", "?7 1 2", ";7 1", "=x7 1", "!7"};
            for (String each : texts) {
                Machine m = Due.loaded(each);
                m.run(1);
                due("frame(0, 1) of " + each, m.frame(0, 1), NONE);
                due("frame(0, 0) of " + each, m.frame(0, 0) > 0 ? 1 : 0, 1);
            }
        });
    }

    private static void handler() {
        of(20, "Tells by which frame an operation would be handled if it were performed now.", "and changes nothing", () ->
                changesNothing("handler(0)", m -> m.handler(0)));
        of(20, "Tells by which frame an operation would be handled if it were performed now.", "as when it is performed", () -> {
            for (int masks = 0; masks <= 3; masks++) {
                String text = "{{{" + "~A".repeat(masks) + "^A8 A x 1} A x 2} A x 3}";
                Machine m = Due.loaded(text);
                m.run(3 + masks + 1);
                Due.kinds(m, "before", kindsOf(masks));
                due("handler behind " + masks + " masks", m.handler(0), masks < 3 ? 1 + 2 * masks : NONE);
                due("handler of another operation", m.handler(1), NONE);
                Due.ran(m);
                due("handled by it", m.value(), masks < 3 ? masks + 1 : 8);
            }
        });
        of(20, "- `a`: the operation, 0 for A to 5 for F", () -> {
            for (int a = 0; a < 6; a++) {
                Machine m = Due.loaded("!{7" + (char) ('A' + a) + "x1}");
                m.run(2);
                for (int b = 0; b < 6; b++) {
                    due("handler(" + b + ")", m.handler(b), a == b ? 0 : NONE);
                }
            }
        });
        of(20, "Returns the index of the handler frame, 0 for the frame on top;", () -> {
            for (int n : new int[] {0, 1, 50, 99}) {
                Machine m = Due.loaded("{" + "!".repeat(n) + "7 A x 1}");
                m.run(n + 1);
                due("handler below " + n + " frames", m.handler(0), n);
                due("it is a handler", m.frame(n, 0), 12);
            }
        });
        of(20, "NONE if there is none;", () -> {
            due("of a new object", new Machine().handler(0), NONE);
            Machine m = Due.loaded("{7 A x 1}");
            due("before the handler", m.handler(0), NONE);
            m.run(1);
            due("in the handler", m.handler(0), 0);
            due("of another operation", m.handler(1), NONE);
            m.run(2);
            due("behind the handler", m.handler(0), NONE);
            m = Due.loaded("{~A7 A x 1}");
            m.run(2);
            due("masked", m.handler(0), NONE);
            m.run(2);
            due("behind the mask", m.handler(0), 0);
            m = Due.loaded("{7 : x 1}");
            m.run(1);
            due("of a return clause alone", m.handler(0), NONE);
            m = Due.loaded("{^A1 A x !x}");
            m.run(4);
            due("in the clause", m.handler(0), NONE);
        });
        of(20, "BAD if a is out of range.", () -> {
            for (int bad : new int[] {-1, 6, MIN, MAX}) {
                isBad("handler(" + bad + ")", m -> m.handler(bad));
            }
        });
    }

    private static int[] kindsOf(int masks) {
        int[] kinds = {7, 12, 12, 12, 0, 0, 0};
        for (int i = 1; i < 4 + masks; i++) {
            kinds[i] = i <= masks ? 8 : 12;
        }
        return java.util.Arrays.copyOf(kinds, 4 + masks);
    }
}
