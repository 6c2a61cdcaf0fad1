/** What the tests share: counting wrong answers, and machines with a text. */
final class Due {
    static final int BAD = -1, STATE = -2, FULL = -3, NONE = -9;

    private static int wrong = 0;
    private static int right = 0;
    private static String context = "";

    private Due() {
    }

    static void due(String what, long got, long want) {
        if (got == want) {
            right++;
        } else {
            wrong++;
            System.out.println(context + what + " answered " + got + ", due is " + want);
        }
    }

    /** What is printed before each wrong answer from now on. */
    static void about(String words) {
        context = words;
    }

    static void same(String what, String got, String want) {
        due(what + ": '" + got + "', where '" + want + "' is due,", got.equals(want) ? 1 : 0, 1);
    }

    /** Replaces the text. */
    static Machine text(Machine m, String text) {
        m.wipe();
        for (int i = 0; i < text.length(); i++) {
            due("write of '" + text + "' at " + i, m.write(text.charAt(i)), i + 1);
        }
        return m;
    }

    static Machine loaded(String text) {
        return loaded(new Machine(), text);
    }

    static Machine loaded(Machine m, String text) {
        text(m, text);
        if (m.load() < 1) {
            due("load of " + text, STATE, 1);
        }
        return m;
    }

    static Machine defined(Machine m, int p, String text) {
        text(m, text);
        if (m.define(p) < 1) {
            due("define of " + text, STATE, 1);
        }
        return m;
    }

    /** Runs until the run does not go on. */
    static Machine ran(Machine m) {
        for (int i = 0; i < 6 && m.told(0) == 1; i++) {
            m.run(200);
        }
        return m;
    }

    static Machine ran(String text) {
        return ran(loaded(text));
    }

    /** The state and the value of the whole run of a text, and its trace. */
    static void run(String text, int state, int value, int... trace) {
        ends(ran(text), text, state, value, trace);
    }

    static void ends(Machine m, String text, int state, int value, int... trace) {
        due("state of " + text, m.told(0), state);
        due("value of " + text, m.value(), value);
        trace(m, text, trace);
    }

    static void trace(Machine m, String text, int... trace) {
        due("length of the trace of " + text, m.told(4), trace.length);
        for (int k = 0; k < trace.length; k++) {
            due("trace " + k + " of " + text, m.trace(k), trace[k]);
        }
    }

    /** The kinds of the frames, the one on top first. */
    static void kinds(Machine m, String what, int... kinds) {
        due("frames " + what, m.told(2), kinds.length);
        for (int k = 0; k < kinds.length; k++) {
            due("frame " + k + " " + what, m.frame(k, 0), kinds[k]);
        }
        due("no more frames " + what, m.frame(kinds.length, 0), BAD);
    }

    /** One step, with what must be so behind it: the focus, the value, and the kinds of the frames. */
    static void step(Machine m, String what, int focus, int value, int... kinds) {
        int before = m.told(1);
        m.run(1);
        due("steps behind " + what, m.told(1), before + 1);
        due("focus behind " + what, m.focus(), focus);
        due("value behind " + what, m.value(), value);
        kinds(m, "behind " + what, kinds);
    }

    /** Makes steps until the frames are of these kinds, and the focus is a value (1) or an expression (2). */
    static void until(Machine m, int focus, int... kinds) {
        for (int n = 0; n < 60 && (m.told(2) != kinds.length || m.focus() != focus || m.frame(0, 0) != kinds[0]); n++) {
            m.run(1);
        }
        due("focus", m.focus(), focus);
        kinds(m, "that were run to", kinds);
    }

    /**
     * A run that counts down by procedure 0: 3 steps for the call, 10 for each round, 3 for the last
     * test, and those of the last part and of what stands before.
     */
    static Machine counting(String before, int rounds, String last) {
        return ran(counted(new Machine(), before, rounds, last));
    }

    static Machine counted(Machine m, String before, int rounds, String last) {
        return loaded(defined(m, 0, "?x &0 -x 1 " + last), before + " " + rounds);
    }

    /** The whole listing of the main expression. */
    static void listing(Machine m, String want) {
        for (int k = 0; k < want.length(); k++) {
            due("listing " + k + " of " + want, m.listing(k), want.charAt(k));
        }
        due("end of the listing " + want, m.listing(want.length()), NONE);
    }

    static void finish(String name) {
        System.out.println(name + ": " + right + " right, " + wrong + " wrong");
        if (wrong > 0) {
            System.exit(1);
        }
    }
}
