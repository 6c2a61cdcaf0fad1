/** The sentences on what may happen, and promise 10. */
final class MayBounds {
    private static final int BAD = Due.BAD, STATE = Due.STATE;
    private static final int MIN = Integer.MIN_VALUE, MAX = Integer.MAX_VALUE;
    private static final String D = "Description";

    private MayBounds() {
    }

    private static void due(String what, long got, long want) {
        Due.due(what, got, want);
    }

    private static void of(String where, String words, String remark, Runnable test) {
        Sentences.of(where, words, remark, test);
    }

    private static void of(String where, String words, Runnable test) {
        Sentences.of(where, words, test);
    }

    static void all() {
        levels();
        parts();
        masks();
        late();
        procedures();
        resumptions();
        handlers();
        may();
    }

    /** What an expression may leave: all pairs, those that are not named are not left. */
    private static void leaves(Machine m, int p, String want) {
        Due.same("what " + (p < 0 ? Picture.listing(m) : "procedure " + p) + " may leave", Picture.leaves(m, p), want);
    }

    private static void leaves(String text, String want) {
        leaves(Due.loaded(text), -1, want);
    }

    /**
     * What an expression may leave late alone: a handler for all operations keeps level 0 back, and
     * lets out what is late.
     */
    private static void leavesLate(String text, String want) {
        leaves("{" + text + " A a 0 B a 0 C a 0 D a 0 E a 0 F a 0}", want);
    }

    private static void levels() {
        String sentence = "An expression may leave an operation with a level from 0 to 3, where 3 stands for 3 and more;";
        of(D, sentence, "as many masks", () -> {
            leaves("1", "");
            leaves("^A1", "A0");
            leaves("~A^A1", "A1");
            leaves("~A~A^A1", "A2");
            leaves("~A~A~A^A1", "A3");
            leaves("~A~A~A~A^A1", "A3");
            leaves("~A~A~A~A~A^A1", "A3");
        });
        of(D, sentence, "3 and more: handlers never bring it below 2 for sure", () -> {
            leaves("{~A~A~A~A~A^A1 A x 1}", "A2 A3");
            leaves("{{~A~A~A^A1 A x 1}A x 1}", "A1 A2 A3");
            leaves("{{{~A~A~A^A1 A x 1}A x 1}A x 1}", "A0 A1 A2 A3");
            leaves("{{{{~A~A~A^A1 A x 1}A x 1}A x 1}A x 1}", "A0 A1 A2 A3");
        });
        of(D, "and it may leave one late, that is, by its finalizers.", () -> {
            leavesLate("%1 ^A2", "A0");
            leavesLate("%^A1 2", "");
            leavesLate("^A1", "");
        });
    }

    private static void parts() {
        String sentence = "These are two sets of pairs for each expression and procedure, the smallest ones for all of them together"
                + " with these properties: each expression may leave, and may leave late, what the expressions in it may leave,"
                + " or may leave late, except as follows.";
        of(D, sentence, "every expression in it", () -> {
            String[] forms = {"!1", "+12 ", "-12 ", "*12 ", "<12 ", "?123", ";12 ", "=x12", "^D1", "~D1", "%12", "&01", "{1}"};
            for (String form : forms) {
                for (char part : "123".toCharArray()) {
                    if (form.indexOf(part) >= 0) {
                        String text = form.replace("" + part, "^F~E^E8").replaceAll("([123])", " $1 ");
                        String rest = form.charAt(0) == '^' ? "D0 E1 F0" : "E1 F0";
                        leaves(text, rest);
                        leavesLate(form.replace("" + part, "%7^C8").replaceAll("([123])", " $1 "), "C0");
                    }
                }
            }
            leaves("{1 : x ^A2}", "A0");
            leaves("{1 B x ^A2 C x ^D3}", "A0 D0");
            leavesLate("{1 : x %1 ^A2}", "A0");
            leavesLate("{1 B x %1 ^A2 C x %1 ^D3}", "A0 D0");
        });
        of(D, sentence, "the smallest ones", () -> {
            Machine m = Due.defined(Due.defined(new Machine(), 0, "&1 x"), 1, "~A&0 x");
            leaves(Due.loaded(m, "&0 {1 A x @@2}"), -1, "");
            leaves(m, 0, "");
            leaves(m, 1, "");
            Due.defined(m, 0, ";&1 x ^Ax");
            leaves(m, 0, "A0 A1 A2 A3");
            leaves(m, 1, "A1 A2 A3");
            Due.defined(m, 0, "&1 x");
            leaves(m, 0, "");
            leaves(m, 1, "");
            leaves(m, -1, "");
        });
        of(D, sentence, "the smallest ones, whatever was so before", () -> {
            for (int p = 0; p < 4; p++) {
                int other = (p + 1) % 4;
                Machine m = Due.defined(new Machine(), p, ";&" + other + " x &" + p + " x");
                Due.defined(m, other, "%^Ex ^Fx");
                leaves(Due.loaded(m, "{&" + p + " 1 E x 0 F x 0}"), -1, "F0");
                leaves(m, p, "E0 F0");
                m.undefine(other);
                leaves(m, p, "");
                leaves(m, -1, "");
            }
            Machine m = Due.defined(new Machine(), 0, "%^Ax ^Bx");
            Due.loaded(m, "{1 C x {;@1 &0 2 A y 0 B y 0}}");
            leaves(m, -1, "B0");
            m.undefine(0);
            leaves(m, -1, "");
            Due.defined(m, 1, "%x ^Bx");
            Due.loaded(m, "{{1 C x ;@1 &1 2} B y 0}");
            leaves(m, -1, "B0");
            Due.defined(m, 1, "x");
            leaves(m, -1, "");
        });
        of(D, sentence, "what is not in it does not count", () -> {
            Machine m = new Machine();
            for (int p = 0; p < 4; p++) {
                Due.defined(m, p, "%^Ax ^Bx");
            }
            String[] forms = {"!1", "+1 2", "<1 2", "?1 2 3", ";1 2", "=x 1 x", "~D1", "%1 2", "{1}", "{1 A x @x : y y}", "{%1 2}"};
            for (String form : forms) {
                Due.text(m, form).load();
                due("A", m.may(-1, 0, 0), 0);
                due("B", m.may(-1, 1, 0), 0);
                Due.text(m, "{" + form + "}").load();
                due("B late", m.may(-1, 1, 0), 0);
            }
        });
        of(D, "^ A E may also leave A with level 0.", () -> {
            leaves("^A1", "A0");
            leaves("^F1", "F0");
            leaves("^C~C^C1", "C0 C1");
            leaves("^A^B^C^D^E^F1", "A0 B0 C0 D0 E0 F0");
        });
    }

    private static void masks() {
        of(D, "~ A E may leave what E may leave, where the level of A is greater by 1 (3 stays 3);", () -> {
            leaves("~A~A^A1", "A2");
            leaves("~A~A~A^A1", "A3");
            leaves("~A~A~A~A^A1", "A3");
            leaves("~F~F~F^F1", "F3");
            leaves("~F~F~F~F^F1", "F3");
            leaves("~A;^A1 ~A;^A2 ~A;^A3 ~A^A4", "A1 A2 A3");
            leaves("~A^B1", "B0");
            leaves("~B;^A1 ;^B2 ^C3", "A0 B1 C0");
            leaves("~E;^D1 ~F~F~F^F1", "D0 F3");
            leaves("~E~F~F~F;^E1 ^F1", "E1 F3");
        });
        of(D, "what E may leave late, it may leave late without a change.", () -> {
            leavesLate("~A%1 ^A2", "A0");
            leavesLate("~A~A%1 ^A2", "A0 A1");
            leaves("~A%1 ^A2", "A1");
            leaves("{~A%1 ^A2}", "A0 A1");
            leaves("{~A~A~A%1 ^A2}", "A0 A3");
            leaves("{~A%1 ~A^A2}", "A1 A2");
        });
    }

    private static void late() {
        of(D, "% E F, where F is the finalizer, may also leave late what F may leave.", () -> {
            leavesLate("%1 ^A2", "A0");
            leavesLate("%^B1 ^A2", "A0");
            leavesLate("%1 %2 ^A3", "A0");
            leavesLate("%%1 ^A2 3", "A0");
            leavesLate("%1 ;^A1 ~F~F~F^F2", "A0 F2 F3");
            leavesLate("%1 2", "");
            leavesLate("{%1 ^A2}", "A0");
            // what a handler for all of them would lower is left late, so it is not
            leaves("{%1 ~A^A2 A x 1}", "A0 A1");
        });
    }

    private static void procedures() {
        String sentence = "& P E may also leave, and leave late, what the body of P may leave, and leave late.";
        of(D, sentence, "each procedure", () -> {
            for (int p = 0; p < 4; p++) {
                Machine m = Due.loaded(Due.defined(new Machine(), p, ";~A^Ax %x ^Bx"), "&" + p + " ^C1");
                leaves(m, -1, "A1 B0 C0");
                leaves(Due.loaded(m, "{&" + p + "^C1 A x 1 B x 2}"), -1, "A0 B0 C0");
                leaves(Due.loaded(m, "&" + (p + 1) % 4 + " ^C1"), -1, "C0");
                m.undefine(p);
                leaves(Due.loaded(m, "&" + p + " ^C1"), -1, "C0");
            }
        });
        of(D, sentence, "procedures that call one another", () -> {
            Machine m = Due.defined(Due.defined(new Machine(), 0, ";^Ax ~B&1 x"), 1, "?x ^B&0 x %1 ^C1");
            leaves(m, 0, "A0 B1 B2 B3 C0");
            leaves(m, 1, "A0 B0 B1 B2 B3 C0");
            Due.defined(m, 2, "&3 x");
            leaves(m, 2, "");
            Due.defined(m, 3, "&0 x");
            leaves(m, 2, "A0 B1 B2 B3 C0");
            m.undefine(1);
            leaves(m, 2, "A0");
            m.undefine(0);
            leaves(m, 2, "");
        });
    }

    private static void resumptions() {
        String sentence = "@ E may also leave, and leave late, what the handler to which the clause belongs may leave, and leave late.";
        of(D, sentence, "may leave", () -> {
            leaves("{1 A x {@2 B y 3}}", "");
            leaves("{^C1 A x ~C@2}", "C0 C1 C2 C3");
            leaves("{^C1 A x {@2 C y 3}}", "C0");
            leaves("{;^C1 1 A x 2 B x ~D{1 C y ~C@y}}", "C0");
            leaves("{1 A x {@^B1 B y ~C@^Cy}}", "C1 C2 C3");
        });
        of(D, sentence, "may leave late", () -> {
            leaves("{1 A x ;~B%1 ^B2 @3}", "B1");
            leaves("{1 A x ;~B%1 ^B2 {@3}}", "B0 B1");
            leavesLate("{%1 ^C2 A x @x}", "C0");
        });
        of(D, sentence, "the handler to which the clause belongs is that of the innermost clause", () -> {
            leaves("{;^A1 {1 B y ~A@y} C x 1}", "A0");
            leaves("{{^A1 B y ~A@y} C x 1}", "A0 A1 A2 A3");
            leaves("{^A1 C x {1 B y 1 : z ~A@z}}", "A0 A1 A2 A3");
        });
    }

    private static void handlers() {
        of(D, "{ E C } may leave what its clauses may leave, and what E may leave late;", () -> {
            leaves("{1 A x ^Ax}", "A0");
            leaves("{1 : x ^Ax A x 1}", "A0");
            leaves("{^A1 A x ^Bx B x ^Cx : x ^Dx}", "B0 C0 D0");
            leaves("{1 A x ~A^Ax}", "A1");
            leaves("{%1 ^A2 A x 1}", "A0");
            leaves("{%1 ~A^A2 A x 1}", "A0 A1");
            leaves("{1 A x %1 ^A2}", "A0");
            leaves("{{1 A x %1 ^B2} B x 1}", "B0");
        });
        String lowered = "and of what E may leave, for an operation that has a clause: nothing for level 0, the operation with level 0"
                + " for level 1, with level 1 for level 2, and with the levels 2 and 3 for level 3;";
        of(D, lowered, () -> {
            for (char a = 'A'; a <= 'F'; a++) {
                String mask = "~" + a;
                String end = "^" + a + "1" + a + "x1}";
                leaves("{" + end, "");
                leaves("{" + mask + end, a + "0");
                leaves("{" + mask + mask + end, a + "1");
                leaves("{" + mask + mask + mask + end, a + "2 " + a + "3");
                leaves("{" + mask + mask + mask + mask + end, a + "2 " + a + "3");
            }
            leaves("{;^A1 ;~B^B2 ;~C~C^C3 ~D~D~D^D4 A x 1 B x 1 C x 1 D x 1}", "B0 C1 D2 D3");
        });
        of(D, "for other operations the same.", () -> {
            leaves("{^A1 B x 1}", "A0");
            leaves("{;^A1 ;~B^B2 ;~C~C^C3 ~D~D~D^D4 E x 1 : y y}", "A0 B1 C2 D3");
            leaves("{;^A1 ;~B^B2 ;~C~C^C3 ~D~D~D^D4 B x 1}", "A0 B0 C2 D3");
            leaves("{^A1 : x x}", "A0");
            leaves("{^A1}", "A0");
        });
    }

    private static void may() {
        of("Promise 10", "Tells whether an expression may leave an operation.", "and changes nothing", () -> {
            for (Picture.Subject each : Subjects.allBut(Subjects.NEW, Subjects.UNLOADED)) {
                each.unchangedBy("may(3, 2, 1)", m -> m.may(3, 2, 1), 1);
                each.unchangedBy("may(-1, 4, 0)", m -> m.may(-1, 4, 0), 0);
            }
        });
        of("Promise 10", "Tells whether an expression may leave an operation.", "whatever the run does", () -> {
            Machine m = Due.loaded("?0 ^A1 ^B2");
            leaves(m, -1, "A0 B0");
            Due.ran(m).answer(5);
            leaves(Due.ran(m), -1, "A0 B0");
        });
        of("Promise 10", "- `p`: -1 for the main expression, or a procedure, 0 to 3", () -> {
            Machine m = Due.loaded("^E1");
            for (int p = 0; p < 4; p++) {
                Due.defined(m, p, "^" + (char) ('A' + p) + "x");
            }
            due("may(-2)", m.may(-2, 0, 0), BAD);
            for (int p = -1; p < 4; p++) {
                leaves(m, p, "EABCD".charAt(p + 1) + "0");
            }
            due("may(4)", m.may(4, 0, 0), BAD);
        });
        of("Promise 10", "- `a`: the operation, 0 for A to 5 for F", () -> {
            for (int a = 0; a < 6; a++) {
                Machine m = Due.loaded("^" + (char) ('A' + a) + "1");
                due("may of -1", m.may(-1, -1, 0), BAD);
                for (int b = 0; b < 6; b++) {
                    due("may " + a + " leave " + b, m.may(-1, b, 0), a == b ? 1 : 0);
                }
                due("may of 6", m.may(-1, 6, 0), BAD);
            }
        });
        of("Promise 10", "- `level`: the level, 0 to 3", () -> {
            for (int masks = 0; masks <= 4; masks++) {
                Machine m = Due.loaded("~F".repeat(masks) + "^F1");
                due("level -1", m.may(-1, 5, -1), BAD);
                for (int level = 0; level <= 3; level++) {
                    due(masks + " masks, level " + level, m.may(-1, 5, level), level == Math.min(masks, 3) ? 1 : 0);
                }
                due("level 4", m.may(-1, 5, 4), BAD);
            }
        });
        of("Promise 10", "Returns 1 if it may leave it with this level, otherwise 0;", () -> {
            Machine m = Due.loaded("~A^A1");
            due("level 0", m.may(-1, 0, 0), 0);
            due("level 1", m.may(-1, 0, 1), 1);
            due("level 2", m.may(-1, 0, 2), 0);
            due("another operation", m.may(-1, 1, 1), 0);
        });
        of("Promise 10", "BAD if an argument is out of range;", () -> {
            int[][] bad = {{-2, 0, 0}, {4, 0, 0}, {MIN, 0, 0}, {MAX, 0, 0}, {-1, -1, 0}, {-1, 6, 0}, {-1, MIN, 0}, {-1, MAX, 0},
                {-1, 0, -1}, {-1, 0, 4}, {-1, 0, MIN}, {-1, 0, MAX}, {3, 6, 3}, {3, 5, 4}, {3, -1, 0}, {0, 0, -1}};
            for (Picture.Subject each : Subjects.all()) {
                for (int[] b : bad) {
                    each.unchangedBy("may(" + b[0] + ", " + b[1] + ", " + b[2] + ")", m -> m.may(b[0], b[1], b[2]), BAD);
                }
            }
        });
        String state = "STATE for the main expression if nothing has been loaded, and for a procedure that is not defined.";
        of("Promise 10", state, "the main expression", () -> {
            Subjects.NEW.unchangedBy("may(-1, 5, 3)", m -> m.may(-1, 5, 3), STATE);
            Subjects.UNLOADED.unchangedBy("may(-1, 0, 0)", m -> m.may(-1, 0, 0), STATE);
            Machine m = Subjects.UNLOADED.made();
            m.load();
            due("behind a load that failed", m.may(-1, 0, 0), STATE);
            leaves(Due.loaded(m, "^A1"), -1, "A0");
            m.back(1);
            due("behind going back to nothing", m.may(-1, 0, 0), STATE);
        });
        of("Promise 10", state, "a procedure", () -> {
            for (Picture.Subject each : Subjects.all()) {
                each.unchangedBy("may(0, 5, 3)", m -> m.may(0, 5, 3), each == Subjects.UNLOADED ? 0 : STATE);
            }
            for (int p = 0; p < 4; p++) {
                Machine m = new Machine();
                due("not defined", m.may(p, 0, 0), STATE);
                leaves(Due.defined(m, p, "^Bx"), p, "B0");
                due("the next one", m.may((p + 1) % 4, 0, 0), STATE);
                m.undefine(p);
                due("removed", m.may(p, 1, 0), STATE);
            }
        });
    }
}
