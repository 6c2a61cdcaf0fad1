import java.util.Random;

/**
 * What may() tells holds for runs: an operation that nobody handles is one that the main expression
 * may leave. (Behind a drop the finalizers may perform others, those that are left late.)
 */
public final class LeavesTest {
    private static final int GAMES = 4000;

    /** More calls than one round makes. */
    private static final int AT_ONCE = 25;

    private static int opened = 0;

    private static String text(RandomText texts, int depth, String bound) {
        String text = texts.generated(depth, bound, false);
        return text.length() <= 100 ? text : "^A1";
    }

    private static boolean mayLeave(Machine m, int operation) {
        boolean leaves = false;
        for (int level = 0; level < 4; level++) {
            leaves |= m.may(-1, operation, level) == 1;
        }
        return leaves;
    }

    private static void play(long seed) {
        Random random = new Random(seed);
        RandomText texts = new RandomText(random);
        Machine m = new Machine();
        StringBuilder all = new StringBuilder();
        for (int p = 0; p < 2; p++) {
            String body = text(texts, 2 + random.nextInt(5), "x");
            all.append(p).append(": ").append(body).append(", ");
            boolean fits = Due.text(m, body).define(p) > 0 && random.nextInt(3) > 0;
            if (!fits) {
                m.undefine(p);
            }
        }
        String main = text(texts, 3 + random.nextInt(5), "");
        Due.text(m, main);
        if (m.load() < 1) {
            return;
        }
        while (m.callsLeft() >= AT_ONCE && Due.ran(m).told(0) == 3) {
            int operation = m.told(10);
            opened++;
            Due.due("may leave operation " + operation + " in " + all + main, mayLeave(m, operation) ? 1 : 0, 1);
            m.answer(random.nextInt(3));
        }
    }

    public static void main(String[] args) {
        for (long seed = 1; seed <= GAMES; seed++) {
            play(seed);
        }
        Due.due("runs were open", opened > GAMES / 2 ? 1 : 0, 1);
        Due.finish("LeavesTest");
    }
}
