import java.util.function.Function;
import java.util.function.Supplier;
import java.util.function.ToIntFunction;

/**
 * All that a machine shows. It takes more calls than one object has, so each part is asked of a
 * machine of its own, made by the same calls.
 */
final class Picture {
    private static final int STATE = Due.STATE;

    private static final class Part {
        final String name;
        final Function<Machine, String> shown;

        Part(String name, Function<Machine, String> shown) {
            this.name = name;
            this.shown = shown;
        }
    }

    private static final Part[] PARTS = {
        new Part("the numbers of the run", Picture::numbers),
        new Part("the frames", Picture::frames),
        new Part("the listing", Picture::listing),
        new Part("what may be left", Picture::leaves),
        new Part("the text", Picture::text),
        new Part("the run to its end", Picture::rest),
        new Part("the run once more", m -> m.restart() + " " + rest(m)),
        new Part("the run of image 0", m -> m.back(0) + " " + numbers(m) + frames(m)),
        new Part("the main expression of image 0", m -> m.back(0) + " " + listing(m) + leaves(m)),
        new Part("the run of image 1", m -> m.back(1) + " " + numbers(m) + frames(m)),
        new Part("the main expression of image 1", m -> m.back(1) + " " + listing(m) + leaves(m)),
    };

    private Picture() {
    }

    static String numbers(Machine m) {
        StringBuilder s = new StringBuilder();
        for (int what = 0; what <= 12; what++) {
            s.append(m.told(what)).append(' ');
        }
        s.append("value ").append(m.value()).append(" focus ").append(m.focus()).append(" trace");
        int traced = m.told(4);
        for (int k = 0; k <= traced; k++) {
            s.append(' ').append(m.trace(k));
        }
        s.append(" operations");
        for (int a = 0; a < 6; a++) {
            s.append(' ').append(m.performed(a)).append('/').append(m.handler(a));
        }
        return s.append(' ').toString();
    }

    static String frames(Machine m) {
        StringBuilder s = new StringBuilder("frames");
        int frames = m.told(2);
        for (int k = 0; k <= frames; k++) {
            s.append(' ').append(m.frame(k, 0)).append(':').append(m.frame(k, 1));
        }
        return s.append(' ').toString();
    }

    static String listing(Machine m) {
        StringBuilder s = new StringBuilder();
        int code = m.listing(0);
        for (int k = 1; code >= 0; k++) {
            s.append((char) code);
            code = m.listing(k);
        }
        return s.append('#').append(code).append(' ').toString();
    }

    /** What an expression may leave, as words like A0. */
    static String leaves(Machine m, int p) {
        StringBuilder s = new StringBuilder();
        for (int a = 0; a < 6; a++) {
            for (int level = 0; level < 4; level++) {
                if (m.may(p, a, level) == 1) {
                    s.append((char) ('A' + a)).append(level).append(' ');
                }
            }
        }
        return s.toString().trim();
    }

    private static String leaves(Machine m) {
        StringBuilder s = new StringBuilder();
        for (int p = -1; p < 4; p++) {
            s.append(m.may(p, 0, 0) == STATE ? "undefined" : leaves(m, p)).append("; ");
        }
        return s.toString();
    }

    /** Its faults tell the text only in part; what can be read of it is told by reading it. */
    private static String text(Machine m) {
        return m.told(11) + " " + m.fault(0) + " " + m.fault(1) + " " + m.define(2) + " " + m.load() + " " + listing(m);
    }

    private static String rest(Machine m) {
        StringBuilder s = new StringBuilder();
        for (int i = 0; i < 12; i++) {
            s.append(m.run(200)).append(' ').append(m.told(10)).append(' ').append(m.value()).append(' ').append(m.answer(i));
            s.append("; ");
        }
        return s.append(numbers(m)).append(frames(m)).toString();
    }

    /** The calls that make a machine, and its pictures, part by part. */
    static final class Subject {
        final String name;
        private final Supplier<Machine> maker;
        private final String[] before = new String[PARTS.length];

        Subject(String name, Supplier<Machine> maker) {
            this.name = name;
            this.maker = maker;
        }

        Machine made() {
            return maker.get();
        }

        /** The call is answered by a number, and changes nothing. */
        void unchangedBy(String call, ToIntFunction<Machine> made, int due) {
            for (int i = 0; i < PARTS.length; i++) {
                Machine m = maker.get();
                if (before[i] == null) {
                    before[i] = PARTS[i].shown.apply(m);
                    m = maker.get();
                }
                Due.due(call + " of a machine that " + name, made.applyAsInt(m), due);
                Due.same(PARTS[i].name + " behind " + call + " of a machine that " + name, PARTS[i].shown.apply(m), before[i]);
            }
        }
    }
}
