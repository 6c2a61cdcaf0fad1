import java.util.ArrayList;
import java.util.List;
import java.util.function.ToIntFunction;

/** What the document says of every call: its first chapter, and the conventions. */
final class ConventionBounds {
    private static final int BAD = Due.BAD, STATE = Due.STATE, FULL = Due.FULL, NONE = Due.NONE;
    private static final int MIN = Integer.MIN_VALUE, MAX = Integer.MAX_VALUE;
    private static final String D = "Description";

    private ConventionBounds() {
    }

    /** One call of many that a test goes through. */
    private static final class Named {
        final String name;
        final ToIntFunction<Machine> call;

        Named(String name, ToIntFunction<Machine> call) {
            this.name = name;
            this.call = call;
        }
    }

    private static void due(String what, long got, long want) {
        Due.due(what, got, want);
    }

    static void all() {
        Subjects.areAsTheySay();
        uses();
        errorCodes();
        severalErrorCodes();
        refusedCalls();
        noSuchValue();
        noCases();
    }

    private static void noCases() {
        Sentences.saysNoCase("What it is", "A machine for a small language with effects and handlers.");
        Sentences.saysNoCase(D, "Expressions perform operations;");
        Sentences.saysNoCase(D, "handlers catch them, and can resume the place where they were performed, not at all, once,"
                + " or several times.");
        Sentences.saysNoCase(D, "Operations can be masked, and finalizers are executed when a part of the run is left.");
        Sentences.saysNoCase(D, "The class reads expressions and procedures from texts, executes them step by step, shows"
                + " frames and the trace, lets operations that nobody handles be answered from outside, and tells which"
                + " operations an expression may leave unhandled.");
        Sentences.saysNoCase(D, "Expressions are:");
        Sentences.saysNoCase(D, "The constants:");
        Sentences.saysNoCase(D, "The constructor and the methods follow, a promise each: the signature, then what it does.");
    }

    private static void uses() {
        String sentence = "An object is used for at most 512 calls after it has been made; what later calls answer is free.";
        Sentences.of("What it is", sentence, "the 512th call is still answered, a cheap one", () -> {
            Machine m = Due.loaded("+!3 4");
            m.run(200);
            while (m.callsLeft() > 1) {
                m.told(0);
            }
            due("value", m.value(), 7);
            due("calls that are left", m.callsLeft(), 0);
        });
        Sentences.of("What it is", sentence, "the 512th call is still answered, when all read the longest text", () -> {
            Machine m = Due.text(new Machine(), "{".repeat(59) + "7" + "}".repeat(59) + " ");
            while (m.callsLeft() > 5) {
                due("fault", m.fault(1), NONE);
                due("load", m.load(), 60);
            }
            while (m.callsLeft() > 4) {
                due("told", m.told(11), 120);
            }
            due("define", m.define(0), 60);
            due("load", m.load(), 60);
            due("run", m.run(118), 1);
            due("the last call", m.run(1), 2);
            due("calls that are left", m.callsLeft(), 0);
        });
        Sentences.of("What it is", sentence, "the 512th call is still answered, when all run and capture many frames", () -> {
            Machine m = Due.loaded("{" + "!".repeat(91) + "^A^A^A^A^A^A^A0 A x @x}");
            m.run(100);
            due("keep", m.keep(0), 1);
            while (m.callsLeft() > 3) {
                due("run", m.run(200), 2);
                due("back", m.back(0), 1);
            }
            while (m.callsLeft() > 1) {
                m.run(200);
            }
            due("the last call", m.told(7), 7);
            due("calls that are left", m.callsLeft(), 0);
        });
    }

    private static void errorCodes() {
        Sentences.of(D, "The error codes are BAD (-1), an argument is out of its range or names something that does not exist;",
                () -> {
            Machine m = Due.loaded("!1");
            due("out of its range", m.run(0), -1);
            due("in its range", m.run(1), 1);
            due("names no frame", m.frame(1, 0), -1);
            due("names a frame", m.frame(0, 0), 6);
        });
        Sentences.of(D, "STATE (-2), the call is not possible now, as the method says;", () -> {
            Machine m = new Machine();
            due("run of nothing", m.run(1), -2);
            due("run of something", Due.loaded(m, "1").run(1), 2);
        });
        Sentences.of(D, "FULL (-3), a maximum would be exceeded.", () -> {
            Machine m = Due.text(new Machine(), "1".repeat(119));
            due("write to the maximum", m.write('1'), 120);
            due("write beyond the maximum", m.write('1'), -3);
        });
        Sentences.of(D, "- `BAD = -1, STATE = -2, FULL = -3, NONE = -9`: The error codes, and the value for \"there is none\".",
                () -> {
            due("BAD", EffectMachine.BAD, -1);
            due("STATE", EffectMachine.STATE, -2);
            due("FULL", EffectMachine.FULL, -3);
            due("NONE", EffectMachine.NONE, -9);
        });
    }

    private static void severalErrorCodes() {
        String sentence = "If several of them apply to one call, the first one in this list is returned.";
        Sentences.of(D, sentence, "BAD before STATE, with nothing loaded or defined, and no text", () -> {
            Machine m = new Machine();
            int[][] bad = {{-1, -1, 0}, {-1, 6, 0}, {-1, 0, -1}, {-1, 0, 4}, {-2, 0, 0}, {4, 0, 0}, {0, 6, 3}, {3, 5, 4}};
            int[][] good = {{-1, 0, 0}, {-1, 5, 0}, {-1, 0, 0}, {-1, 0, 3}, {-1, 0, 0}, {3, 0, 0}, {0, 5, 3}, {3, 5, 3}};
            for (int i = 0; i < bad.length; i++) {
                due("bad may " + i, m.may(bad[i][0], bad[i][1], bad[i][2]), BAD);
                due("good may " + i, m.may(good[i][0], good[i][1], good[i][2]), STATE);
            }
            due("define(-1)", m.define(-1), BAD);
            due("define(0)", m.define(0), STATE);
            due("define(4)", m.define(4), BAD);
            due("define(3)", m.define(3), STATE);
            due("listing(-1)", m.listing(-1), BAD);
            due("listing(0)", m.listing(0), STATE);
            due("back(-1)", m.back(-1), BAD);
            due("back(0)", m.back(0), STATE);
            due("back(2)", m.back(2), BAD);
            due("back(1)", m.back(1), STATE);
        });
        Sentences.of(D, sentence, "BAD before STATE, when the run does not go on", () -> {
            for (Picture.Subject each : Subjects.allBut(Subjects.GOING, Subjects.VALUE)) {
                Machine m = each.made();
                due("run(0) of a machine that " + each.name, m.run(0), BAD);
                due("run(1) of a machine that " + each.name, m.run(1), STATE);
                due("run(201) of a machine that " + each.name, m.run(201), BAD);
                due("run(200) of a machine that " + each.name, m.run(200), STATE);
            }
        });
        Sentences.of(D, sentence, "BAD before FULL", () -> {
            Machine m = Due.text(new Machine(), "1".repeat(120));
            due("write(31)", m.write(31), BAD);
            due("write(32)", m.write(32), FULL);
            due("write(127)", m.write(127), BAD);
            due("write(126)", m.write(126), FULL);
        });
    }

    /** Calls that are BAD in every state. */
    private static List<Named> badCalls() {
        List<Named> calls = new ArrayList<>();
        int[][] ranges = {{32, 126}, {0, 1}, {0, 3}, {0, 3}, {0, MAX}, {1, 200}, {0, 12}, {0, MAX}, {0, 5}, {0, 5}, {0, 1}, {0, 1}};
        String[] names = {"write", "fault", "define", "undefine", "listing", "run", "told", "trace", "performed", "handler",
            "keep", "back"};
        for (int i = 0; i < names.length; i++) {
            int which = i;
            for (int bad : new int[] {MIN, ranges[i][0] - 1, ranges[i][1] + 1, MAX}) {
                if (bad < ranges[i][0] || bad > ranges[i][1]) {
                    calls.add(new Named(names[i] + "(" + bad + ")", m -> call(m, which, bad)));
                }
            }
        }
        int[][] mays = {{-2, 0, 0}, {4, 0, 0}, {-1, -1, 0}, {-1, 6, 0}, {-1, 0, -1}, {-1, 0, 4}, {1, 6, 0}, {1, 0, 4}, {MIN, MAX, MAX}};
        for (int[] bad : mays) {
            calls.add(new Named("may(" + bad[0] + ", " + bad[1] + ", " + bad[2] + ")", m -> m.may(bad[0], bad[1], bad[2])));
        }
        calls.add(new Named("frame(-1, 0)", m -> m.frame(-1, 0)));
        calls.add(new Named("frame(0, -1)", m -> m.frame(0, -1)));
        calls.add(new Named("frame(0, 2)", m -> m.frame(0, 2)));
        calls.add(new Named("frame behind the last", m -> m.frame(m.told(2), 0)));
        return calls;
    }

    private static int call(Machine m, int which, int argument) {
        switch (which) {
            case 0: return m.write(argument);
            case 1: return m.fault(argument);
            case 2: return m.define(argument);
            case 3: return m.undefine(argument);
            case 4: return m.listing(argument);
            case 5: return m.run(argument);
            case 6: return m.told(argument);
            case 7: return m.trace(argument);
            case 8: return m.performed(argument);
            case 9: return m.handler(argument);
            case 10: return m.keep(argument);
            default: return m.back(argument);
        }
    }

    private static void refusedCalls() {
        String sentence = "A call that returns one of them changes nothing.";
        Sentences.of(D, sentence, "BAD, in every state", () -> {
            for (Picture.Subject subject : Subjects.all()) {
                for (Named each : badCalls()) {
                    subject.unchangedBy(each.name, each.call, BAD);
                }
            }
        });
        Sentences.of(D, sentence, "STATE, in every state with which a call is refused", () -> {
            for (Picture.Subject subject : Subjects.all()) {
                subject.unchangedBy("load()", Machine::load, STATE);
                subject.unchangedBy("may(0, 0, 0)", m -> m.may(0, 0, 0), subject == Subjects.UNLOADED ? 0 : STATE);
                subject.unchangedBy("back(0)", m -> m.back(0), STATE);
            }
            for (Picture.Subject subject : Subjects.allBut(Subjects.OPEN)) {
                subject.unchangedBy("answer(7)", m -> m.answer(7), STATE);
                subject.unchangedBy("drop(7)", m -> m.drop(7), STATE);
            }
            for (Picture.Subject subject : Subjects.allBut(Subjects.GOING, Subjects.VALUE)) {
                subject.unchangedBy("run(1)", m -> m.run(1), STATE);
                subject.unchangedBy("run(200)", m -> m.run(200), STATE);
            }
            for (Picture.Subject subject : new Picture.Subject[] {Subjects.NEW, Subjects.UNLOADED}) {
                subject.unchangedBy("restart()", Machine::restart, STATE);
                subject.unchangedBy("listing(0)", m -> m.listing(0), STATE);
                subject.unchangedBy("may(-1, 0, 0)", m -> m.may(-1, 0, 0), STATE);
            }
            Subjects.NEW.unchangedBy("define(0)", m -> m.define(0), STATE);
        });
        Sentences.of(D, sentence, "FULL", () -> {
            Picture.Subject full = new Picture.Subject("has a full text", () -> Due.text(Subjects.OPEN.made(), "!".repeat(118) + "16"));
            full.unchangedBy("write(32)", m -> m.write(32), FULL);
            full.unchangedBy("write('0')", m -> m.write('0'), FULL);
            full.unchangedBy("write(126)", m -> m.write(126), FULL);
        });
    }

    private static void noSuchValue() {
        Sentences.of(D, "NONE (-9) means that there is no such value;", () -> {
            Machine m = Due.ran("+!1 ^F2");
            due("the last byte", m.listing(5), '2');
            due("behind the last byte", m.listing(6), -9);
            due("the last value of the trace", m.trace(0), 1);
            due("behind the last value of the trace", m.trace(1), -9);
            due("the operation of an open run", m.told(10), 5);
            m.answer(0);
            due("no operation", m.told(10), -9);
            due("no handler", m.handler(0), -9);
            due("no fault", m.fault(0), -9);
            Due.loaded(m, "!1").run(1);
            due("a frame without a property", m.frame(0, 1), -9);
        });
        Sentences.of(D, "it is returned only if no error code applies.", () -> {
            Machine m = new Machine();
            due("listing with nothing loaded", m.listing(0), STATE);
            due("listing with nothing loaded", m.listing(MAX), STATE);
            due("listing(-1)", m.listing(-1), BAD);
            due("trace(-1) of nothing", m.trace(-1), BAD);
            due("trace(0) of nothing", m.trace(0), NONE);
            due("handler(6) of nothing", m.handler(6), BAD);
            due("handler(5) of nothing", m.handler(5), NONE);
            Due.loaded(m, "!1").run(1);
            due("fault(2) of an expression", m.fault(2), BAD);
            due("fault(1) of an expression", m.fault(1), NONE);
            due("frame(1, 1)", m.frame(1, 1), BAD);
            due("frame(0, 2)", m.frame(0, 2), BAD);
            due("frame(0, 1)", m.frame(0, 1), NONE);
            due("told(13)", m.told(13), BAD);
            due("told(10)", m.told(10), NONE);
        });
        Sentences.of(D, "Where values of the language are returned, they may be equal to these.", () -> {
            for (int v : new int[] {-1, -2, -3, -9}) {
                Machine m = Due.ran("+^A-0 " + -v + " %!-0 " + -v + " ^B1");
                due("argument " + v, m.value(), v);
                due("answer " + v, m.answer(v), 1);
                due("value " + v, m.value(), v);
                m.run(1);
                due("remembered " + v, m.frame(0, 1), v);
                Due.ran(m);
                due("trace " + v, m.trace(0), v);
                due("remembered behind " + v, m.frame(0, 1), v);
                m.answer(0);
                due("run to the end " + v, m.run(200), 2);
                due("ended with " + v, m.value(), 2 * v);
                Due.ends(Due.ran("-0 " + -v), "value " + v, 2, v);
            }
        });
    }
}
