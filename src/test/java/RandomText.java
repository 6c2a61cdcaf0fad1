import java.util.Random;

/** Random texts of expressions. */
final class RandomText {
    private final Random random;

    RandomText(Random random) {
        this.random = random;
    }

    /** An expression in which the letters of a word are bound; resumes tells whether an @ can stand there. */
    String generated(int depth, String bound, boolean resumes) {
        int pick = depth <= 0 ? random.nextInt(2) : 2 + random.nextInt(24);
        String more = "" + (char) ('a' + random.nextInt(3));
        char operation = (char) ('A' + random.nextInt(random.nextInt(4) == 0 ? 6 : 2));
        int d = depth - 1 - random.nextInt(2);
        switch (pick) {
            case 0: case 2:
                return bound.isEmpty() ? number() : "" + bound.charAt(random.nextInt(bound.length()));
            case 1: case 3:
                return number();
            case 4: case 5:
                return "+-*<".charAt(random.nextInt(4)) + two(d, bound, resumes);
            case 6:
                return "?" + generated(d, bound, resumes) + blank() + two(d, bound, resumes);
            case 7: case 8:
                return ";" + two(d, bound, resumes);
            case 9:
                return "=" + more + generated(d, bound, resumes) + blank() + generated(d, bound + more, resumes);
            case 10:
                return "!" + generated(d, bound, resumes);
            case 11: case 12: case 13:
                return "^" + blank() + operation + generated(d, bound, resumes);
            case 14:
                return "~" + operation + generated(d, bound, resumes);
            case 15: case 16:
                return "%" + two(d, bound, resumes);
            case 17:
                return "&" + random.nextInt(random.nextInt(3) == 0 ? 4 : 2) + blank() + generated(d, bound, resumes);
            case 18: case 19: case 20:
                return (resumes ? "@" : "^" + operation) + generated(d, bound, resumes);
            default:
                return handler(d, bound, resumes);
        }
    }

    private String handler(int d, String bound, boolean resumes) {
        StringBuilder s = new StringBuilder("{").append(generated(d, bound, resumes));
        String order = random.nextBoolean() ? "BA:C" : random.nextBoolean() ? ":FA" : "A";
        for (char c : order.toCharArray()) {
            if (random.nextInt(3) > 0) {
                String x = "" + (char) ('a' + random.nextInt(3));
                boolean inside = resumes || c != ':';
                s.append(blank()).append(c).append(x);
                s.append(inside && random.nextBoolean() ? resuming(d, bound + x) : generated(d, bound + x, inside));
            }
        }
        return s.append("}").toString();
    }

    /** Clauses that use their resumption once, twice, late, or let it be pushed upon itself. */
    private String resuming(int d, String bound) {
        String some = generated(Math.min(d, 1), bound, true);
        switch (random.nextInt(6)) {
            case 0: return "@" + some;
            case 1: return "+@" + some + blank() + "@" + generated(0, bound, true);
            case 2: return ";@" + some + blank() + "@" + generated(0, bound, true);
            case 3: return "%@" + some + blank() + "@" + generated(0, bound, true);
            case 4: return "@@" + some;
            default: return "%" + some + blank() + "!@" + generated(0, bound, true);
        }
    }

    private String two(int d, String bound, boolean resumes) {
        return generated(d, bound, resumes) + blank() + generated(d, bound, resumes);
    }

    private String blank() {
        return random.nextInt(4) > 0 ? " " : random.nextInt(3) > 0 ? "" : "  ";
    }

    private String number() {
        int kind = random.nextInt(random.nextInt(20) == 0 ? 3 : 20);
        kind = random.nextInt(20) > 0 && kind == 2 ? 3 : kind;
        return kind == 0 ? "00" + random.nextInt(10) : kind == 1 ? "" + random.nextInt(1000)
                : kind == 2 ? "" + random.nextInt(10000) : "" + random.nextInt(4);
    }

    /** A text with a change that may be a fault. */
    String mutated(String text) {
        StringBuilder s = new StringBuilder(text);
        String signs = "@@^~%&{}{}:ABCDEFG0123456789xyzabc+-*<?;=! \"";
        int at = random.nextInt(s.length() + 1);
        char c = signs.charAt(random.nextInt(signs.length()));
        switch (random.nextInt(4)) {
            case 0:
                s.insert(at, c);
                break;
            case 1:
                s.setLength(at);
                break;
            case 2:
                s.append(c);
                break;
            default:
                if (at < s.length()) {
                    s.setCharAt(at, c);
                }
                break;
        }
        return s.toString();
    }
}
