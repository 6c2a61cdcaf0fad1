import java.util.Random;

/** Plays the same calls on the program and on the Model and compares every answer. */
public final class FuzzTest {
    /** The most calls that are made without asking goesOn() again. */
    private static final int AT_ONCE = 20;

    private final Random random;
    private final RandomText texts;
    private final Machine machine = new Machine();
    private final Model model = new Model();
    private final StringBuilder log = new StringBuilder();
    private boolean same = true;
    static long[] seenStates = new long[6];
    static long reusedRuns, finalizedRuns, pendingDrops;

    private FuzzTest(long seed) {
        random = new Random(seed);
        texts = new RandomText(random);
    }

    private void compare(String call, int got, int want) {
        log.append(call).append(" -> ").append(got).append('\n');
        if (got != want) {
            log.append("due is ").append(want).append('\n');
            same = false;
        }
    }

    /** Whether another call can be made without leaving what the document promises. */
    private boolean goesOn() {
        return same && machine.callsLeft() >= AT_ONCE;
    }

    // ---- texts

    private void writeText(boolean asBody) {
        compare("wipe()", machine.wipe(), model.wipe());
        int room = 20 + random.nextInt(101);
        String text = "1";
        for (int attempt = 0; attempt < 40; attempt++) {
            String next = texts.generated(2 + random.nextInt(6), asBody ? "x" : "", false);
            if (next.length() <= room && next.length() > text.length()) {
                text = next;
            }
        }
        for (int n = random.nextInt(8); n > 5; n--) {
            text = texts.mutated(text);
        }
        for (int i = 0; i < text.length() && goesOn(); i++) {
            int code = text.charAt(i);
            compare("write(" + code + ")", machine.write(code), model.write(code));
        }
        log.append("text ").append(text).append('\n');
        compare("fault(0)", machine.fault(0), model.fault(0));
        compare("fault(1)", machine.fault(1), model.fault(1));
    }

    // ---- calls

    private void look() {
        for (int what = 0; what < 11; what++) {
            compare("told(" + what + ")", machine.told(what), model.told(what));
        }
        compare("value()", machine.value(), model.value());
        compare("focus()", machine.focus(), model.focus());
        int k = random.nextInt(6);
        compare("frame(" + k + ", 0)", machine.frame(k, 0), model.frame(k, 0));
        compare("frame(" + k + ", 1)", machine.frame(k, 1), model.frame(k, 1));
        seenStates[model.state]++;
        reusedRuns += model.reused > 0 ? 1 : 0;
        finalizedRuns += model.finalized > 0 ? 1 : 0;
    }

    private void oneCall() {
        int i = random.nextInt(2);
        int k = random.nextInt(12);
        int v = random.nextInt(5);
        int a = random.nextInt(8) - 1;
        int p = random.nextInt(7) - 2;
        switch (random.nextInt(28)) {
            case 0:
                compare("keep(" + i + ")", machine.keep(i), model.keep(i));
                break;
            case 1:
                compare("back(" + i + ")", machine.back(i), model.back(i));
                break;
            case 2:
                compare("restart()", machine.restart(), model.restart());
                break;
            case 3:
                compare("undefine(" + p + ")", machine.undefine(p), model.undefine(p));
                break;
            case 4:
                compare("define(" + p + ")", machine.define(p), model.define(p));
                break;
            case 5: case 6: case 7:
                compare("answer(" + v + ")", machine.answer(v), model.answer(v));
                break;
            case 8:
                pendingDrops += model.state == 3 ? 1 : 0;
                compare("drop(" + v + ")", machine.drop(v), model.drop(v));
                break;
            case 9:
                compare("performed(" + a + ")", machine.performed(a), model.performed(a));
                break;
            case 10:
                compare("handler(" + a + ")", machine.handler(a), model.handler(a));
                break;
            case 11:
                compare("trace(" + k + ")", machine.trace(k), model.trace(k));
                break;
            case 12:
                compare("listing(" + k * 3 + ")", machine.listing(k * 3), model.listing(k * 3));
                break;
            case 13: case 14:
                compare("may(" + p + ", " + a + ", " + v + ")", machine.may(p, a, v), model.may(p, a, v));
                break;
            case 15: {
                int most = 1 + random.nextInt(7);
                for (int n = 0; n < most && goesOn(); n++) {
                    compare("run(200)", machine.run(200), model.run(200));
                    compare("answer(" + v + ")", machine.answer(v), model.answer(v));
                }
                break;
            }
            case 16: case 17:
                look();
                break;
            case 18:
                compare("frame(" + k * 9 + ", " + (v - 1) + ")", machine.frame(k * 9, v - 1), model.frame(k * 9, v - 1));
                break;
            default: {
                int n = 1 + random.nextInt(9);
                compare("run(" + n + ")", machine.run(n), model.run(n));
                break;
            }
        }
    }

    private void wholeListing() {
        int got = 0;
        for (int k = 0; got >= 0 && goesOn(); k++) {
            got = machine.listing(k);
            if (got != model.listing(k)) {
                compare("listing(" + k + ")", got, model.listing(k));
            }
        }
    }

    private void allMay() {
        int p = random.nextInt(5) - 1;
        for (int a = 0; a < 6; a++) {
            for (int level = 0; level < 4 && goesOn(); level++) {
                int got = machine.may(p, a, level);
                if (got != model.may(p, a, level)) {
                    compare("may(" + p + ", " + a + ", " + level + ")", got, model.may(p, a, level));
                }
            }
        }
    }

    private boolean plays() {
        int bodies = random.nextInt(3);
        for (int p = 0; p < bodies && goesOn(); p++) {
            writeText(true);
            compare("define(" + p + ")", machine.define(p), model.define(p));
        }
        while (goesOn()) {
            writeText(false);
            if (!goesOn()) {
                break;
            }
            compare("load()", machine.load(), model.load());
            if (random.nextInt(3) == 0) {
                wholeListing();
            }
            allMay();
            for (int n = 20 + random.nextInt(100); n > 0 && goesOn(); n--) {
                oneCall();
            }
        }
        return same;
    }

    public static void main(String[] args) {
        long first = args.length > 0 ? Long.parseLong(args[0]) : 1;
        long games = args.length > 1 ? Long.parseLong(args[1]) : 6000;
        for (long seed = first; seed < first + games; seed++) {
            FuzzTest game = new FuzzTest(seed);
            boolean fine;
            try {
                fine = game.plays();
            } catch (RuntimeException thrown) {
                thrown.printStackTrace(System.out);
                fine = false;
            }
            if (!fine) {
                System.out.println("seed " + seed + "\n" + game.log);
                System.exit(1);
            }
        }
        long[] s = seenStates;
        System.out.println("fuzz: " + games + " games alike; states " + s[0] + " " + s[1] + " " + s[2] + " " + s[3] + " "
                + s[4] + " " + s[5] + ", reused " + reusedRuns + ", finalized " + finalizedRuns + ", drops " + pendingDrops);
    }
}
