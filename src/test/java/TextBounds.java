/** The sentences on texts and expressions, and promises 1 to 9. */
final class TextBounds {
    private static final int BAD = Due.BAD, STATE = Due.STATE, FULL = Due.FULL, NONE = Due.NONE;
    private static final int MIN = Integer.MIN_VALUE, MAX = Integer.MAX_VALUE;
    private static final String D = "Description";

    private TextBounds() {
    }

    private static void due(String what, long got, long want) {
        Due.due(what, got, want);
    }

    private static void of(String where, String words, String remark, Runnable test) {
        Sentences.of(where, words, remark, test);
    }

    private static void of(String where, String words, Runnable test) {
        Sentences.of(where, words, test);
    }

    static void all() {
        theText();
        blanks();
        letters();
        numbers();
        operators();
        choices();
        otherExpressions();
        clauses();
        bindings();
        resumptions();
        faults();
        newObject();
        write();
        wipe();
        fault();
        load();
        define();
        undefine();
        restart();
        listing();
    }

    /** The fault of a text as the main expression, and what load answers to it. */
    private static void fault(String text, int want) {
        fault(text, want, want);
    }

    private static void fault(String text, int asMain, int asBody) {
        Machine m = Due.text(new Machine(), text);
        due("fault(0) of '" + text + "'", m.fault(0), asMain);
        due("fault(1) of '" + text + "'", m.fault(1), asBody);
        due("load of '" + text + "'", m.load() > 0 ? 1 : STATE, asMain == NONE ? 1 : STATE);
        due("define of '" + text + "'", m.define(0) > 0 ? 1 : STATE, asBody == NONE ? 1 : STATE);
    }

    private static int faultOf(String text, int how) {
        return Due.text(new Machine(), text).fault(how);
    }

    private static void lists(String text, String want) {
        Due.same("the listing of '" + text + "'", Picture.listing(Due.loaded(text)), want + "#" + NONE + " ");
    }

    // ---- the text

    private static final String TEXT = "The text has at most 120 bytes with codes from 32 to 126 and is empty at first.";

    private static void theText() {
        of(D, TEXT, "120 bytes, and the last one counts", () -> {
            Machine m = Due.text(new Machine(), "!".repeat(118) + "1");
            due("load of 119 bytes", m.load(), 119);
            due("write the 120th", m.write('2'), 120);
            due("write the 121st", m.write('3'), FULL);
            due("load of 120 bytes", m.load(), 119);
            due("the last digit", m.listing(119), '2');
            due("behind it", m.listing(120), NONE);
            fault("!".repeat(119) + "1", NONE);
            fault("!".repeat(118) + "1!", 119);
            fault("!".repeat(118) + "1x", 119);
            fault("!".repeat(118) + "1 ", NONE);
            fault("1" + " ".repeat(119), NONE);
            fault("1" + " ".repeat(118) + "1", 119);
        });
        of(D, TEXT, "codes from 32 to 126", () -> {
            Machine m = new Machine();
            due("write(31)", m.write(31), BAD);
            due("write(32)", m.write(32), 1);
            due("write(127)", m.write(127), BAD);
            due("write(126)", m.write(126), 2);
            due("the length", m.told(11), 2);
            due("the bytes are there: an operation is due", m.fault(0), 2);
        });
        of(D, TEXT, "empty at first", () -> {
            due("told(11)", new Machine().told(11), 0);
            due("fault", new Machine().fault(0), 0);
            due("load", new Machine().load(), STATE);
            due("wipe", new Machine().wipe(), 0);
            due("the first write", new Machine().write('1'), 1);
        });
    }

    private static void blanks() {
        String sentence = "It is the text of an expression, with blanks (code 32) anywhere except within a number.";
        of(D, sentence, "anywhere", () -> {
            String[][] texts = {{"7"}, {"!", "x"}, {"+", "1", "x"}, {"-", "1", "2"}, {"*", "x", "2"}, {"<", "1", "2"},
                {"?", "1", "x", "3"}, {";", "x", "2"}, {"=", "z", "1", "z"}, {"^", "A", "1"}, {"~", "F", "x"}, {"%", "1", "x"},
                {"&", "0", "1"}, {"&", "3", "x"}, {"{", "1", "}"}, {"{", "1", "F", "a", "@", "a", ":", "y", "y", "}"}};
            for (String[] each : texts) {
                String wide = "  " + String.join("  ", each) + "  ";
                fault(wide, wide.contains("x") ? wide.indexOf('x') : NONE, NONE);
                Machine m = Due.defined(new Machine(), 1, wide);
                String close = String.join("", each).replaceAll("1([23])", "1 $1");
                Machine n = Due.defined(new Machine(), 1, close);
                due("expressions of '" + wide + "'", m.define(2), n.define(2));
                if (!wide.contains("x")) {
                    lists(wide, close);
                }
            }
        });
        of(D, sentence, "not within a number", () -> {
            fault("12", NONE);
            fault("1 2", 2);
            fault("12 3", 3);
            fault("+12", 3);
            fault("+1 2", NONE);
            Due.run("+12 3", 2, 15);
            Due.run("+1 23", 2, 24);
        });
        of(D, sentence, "nothing but blanks is no expression", () -> {
            fault(" ", 1);
            fault(" ".repeat(120), 120);
            fault(" ".repeat(119) + "1", NONE);
        });
    }

    private static void letters() {
        String sentence = "In the following, E stands for an expression, x for a variable (a letter a to z), A for an operation"
                + " (a letter A to F), and P for a procedure (a digit 0 to 3).";
        of(D, sentence, "a variable", () -> {
            for (char x = 'a'; x <= 'z'; x++) {
                fault("=" + x + "1 " + x, NONE);
                fault("{1A" + x + x + "}", NONE);
                fault("{1:" + x + x + "}", NONE);
                Due.run("=" + x + " 5 +" + x + " 1", 2, 6);
            }
            for (char bad : "`{AZ@[1}".toCharArray()) {
                fault("=" + bad + "1 1", 1);
                fault("{1A" + bad + "1}", 3);
                fault("{1:" + bad + "1}", 3);
            }
            for (char bad : "`|AZ[}".toCharArray()) {
                fault("=a1 " + bad, 4);
            }
        });
        of(D, sentence, "an operation", () -> {
            for (char a = 'A'; a <= 'F'; a++) {
                fault("^" + a + "1", NONE);
                fault("~" + a + "1", NONE);
                fault("{1" + a + "x1}", NONE);
                Machine m = Due.ran("^" + a + "1");
                due("the operation " + a, m.told(10), a - 'A');
            }
            for (char bad : "@G`af05".toCharArray()) {
                fault("^" + bad + "1", 1);
                fault("~" + bad + "1", 1);
            }
            for (char bad : "@Gaf0;9".toCharArray()) {
                fault("{!=a1 a" + bad + "x1}", 7);
            }
        });
        of(D, sentence, "a procedure", () -> {
            for (char p = '0'; p <= '3'; p++) {
                fault("&" + p + "1", NONE);
                Machine m = Due.defined(new Machine(), p - '0', "+x 1");
                Due.ends(Due.ran(Due.loaded(m, "&" + p + "7")), "the procedure " + p, 2, 8);
            }
            fault("&/1", 1);
            fault("&41", 1);
            fault("&91", 1);
            fault("&x1", 1);
        });
    }

    private static void numbers() {
        String sentence = "a number with one to three digits (as many as possible, but at most three)";
        of(D, sentence, "one to three digits", () -> {
            fault("+", 1);
            Due.run("7", 2, 7);
            Due.run("78", 2, 78);
            Due.run("789", 2, 789);
            fault("7890", 3);
            Due.run("0", 2, 0);
            Due.run("000", 2, 0);
            Due.run("999", 2, 999);
            fault("0000", 3);
        });
        of(D, sentence, "as many as possible", () -> {
            fault("+12", 3);
            fault("+123", 4);
            Due.run("+1234", 2, 127);
            Due.run("+123456", 2, 579);
            fault("+1234567", 7);
            Due.run("++1234567", 2, 123 + 456 + 7);
            Due.run("+1 234", 2, 235);
        });
        of(D, sentence, "a digit", () -> {
            for (char digit = '0'; digit <= '9'; digit++) {
                Due.run("" + digit, 2, digit - '0');
                Due.run("5" + digit + digit, 2, 500 + 11 * (digit - '0'));
            }
            fault("/", 0);
            fault(":", 0);
            fault("5/", 1);
            fault("5:", 1);
        });
        of(D, "x the value of the variable", () -> {
            for (int v : new int[] {MIN, MAX, 0, -1}) {
                Machine m = Due.ran("=y ^A1 y");
                m.answer(v);
                Due.ends(Due.ran(m), "a variable that is " + v, 2, v);
            }
        });
    }

    /** The value of an operator for two numbers, each given as an answer. */
    private static int valueOf(char operator, int left, int right) {
        Machine m = Due.ran(operator + "^A1 ^B2");
        m.answer(left);
        Due.ran(m).answer(right);
        due("state of " + operator, Due.ran(m).told(0), 2);
        return m.value();
    }

    private static void operators() {
        String sentence = "+ E E, - E E, * E E sum, difference and product, as ints that overflow";
        of(D, sentence, "sum", () -> {
            due("MAX + 0", valueOf('+', MAX, 0), MAX);
            due("MAX + 1", valueOf('+', MAX, 1), MIN);
            due("1 + MAX", valueOf('+', 1, MAX), MIN);
            due("MIN + -1", valueOf('+', MIN, -1), MAX);
            due("MIN + 1", valueOf('+', MIN, 1), -MAX);
            due("MAX + MAX", valueOf('+', MAX, MAX), -2);
            due("MIN + MIN", valueOf('+', MIN, MIN), 0);
            due("MAX + MIN", valueOf('+', MAX, MIN), -1);
        });
        of(D, sentence, "difference", () -> {
            due("MIN - 0", valueOf('-', MIN, 0), MIN);
            due("MIN - 1", valueOf('-', MIN, 1), MAX);
            due("MAX - -1", valueOf('-', MAX, -1), MIN);
            due("0 - MIN", valueOf('-', 0, MIN), MIN);
            due("-1 - MIN", valueOf('-', -1, MIN), MAX);
            due("0 - MAX", valueOf('-', 0, MAX), -MAX);
            due("3 - 5", valueOf('-', 3, 5), -2);
        });
        of(D, sentence, "product", () -> {
            due("46340 * 46340", valueOf('*', 46340, 46340), 2147395600);
            due("46341 * 46341", valueOf('*', 46341, 46341), -2147479015);
            due("65536 * 65536", valueOf('*', 65536, 65536), 0);
            due("65536 * 32768", valueOf('*', 65536, 32768), MIN);
            due("MIN * -1", valueOf('*', MIN, -1), MIN);
            due("MAX * -1", valueOf('*', MAX, -1), -MAX);
            due("MAX * 2", valueOf('*', MAX, 2), -2);
            due("MAX * MAX", valueOf('*', MAX, MAX), 1);
        });
        of(D, "< E E 1 if the first value is less than the second one, otherwise 0", () -> {
            int[] rising = {MIN, MIN + 1, -2, -1, 0, 1, 2, MAX - 1, MAX};
            for (int i = 0; i < rising.length; i++) {
                for (int j = 0; j < rising.length; j++) {
                    due(rising[i] + " < " + rising[j], valueOf('<', rising[i], rising[j]), i < j ? 1 : 0);
                }
            }
        });
    }

    private static void choices() {
        of(D, "? E E E the second expression if the value of the first one is not 0, otherwise the third one", () -> {
            for (int v : new int[] {MIN, -2, -1, 0, 1, 2, 256, 65536, MAX}) {
                Machine m = Due.ran("?^A1 !2 !3");
                m.answer(v);
                Due.ends(Due.ran(m), "? for " + v, 2, v != 0 ? 2 : 3, v != 0 ? 2 : 3);
            }
        });
        of(D, "; E E both one after the other, with the value of the second one", () -> Due.run(";!1 !2", 2, 2, 1, 2));
        of(D, "= x E E the second expression, in which x has the value of the first one", () -> {
            Due.run("=x !4 !+x x", 2, 8, 4, 8);
            Due.run("=x !4 7", 2, 7, 4);
        });
        of(D, "! E the value of E, which is also appended to the trace", () -> Due.run("+!!7 1", 2, 8, 7, 7));
    }

    private static void otherExpressions() {
        of(D, "^ A E performs the operation A with the value of E as its argument", () -> {
            Machine m = Due.ran("^C+1 2");
            due("operation", m.told(10), 2);
            due("argument", m.value(), 3);
        });
        of(D, "~ A E the value of E, where the operation A is masked", () -> {
            Due.run("{~A7 A x 1}", 2, 7);
            Due.run("{~A^A7 A x 1}", 3, 7);
            Due.run("{~B^A7 A x 1}", 2, 1);
            Due.run("{;~A7 ^A7 A x 1}", 2, 1);
        });
        of(D, "% E E the value of the first expression, with the second one as its finalizer", () -> Due.run("%!1 !2", 2, 1, 1, 2));
        of(D, "& P E calls the procedure P with the value of E", () -> {
            Machine m = Due.defined(new Machine(), 2, "*x x");
            Due.ends(Due.ran(Due.loaded(m, "&2 !+1 2")), "a call", 2, 9, 3);
        });
        of(D, "@ E resumes with the value of E", () -> Due.run("{+^A1 10 A x @+x 5}", 2, 16));
    }

    private static void clauses() {
        of(D, "{ E C } handles E;", () -> {
            Due.run("{^A1 A x +x 1}", 2, 2);
            Due.run("+{1 A x 9} ^A3", 3, 3);
        });
        String number = "C stands for the clauses of the handler, none or more: A x E for the operation A, and : x E for the return;";
        of(D, number, "none", () -> {
            Due.run("{7}", 2, 7);
            Machine m = Due.ran("{^A7}");
            due("open", m.told(0), 3);
            due("clauses for operations", m.frame(0, 1), 0);
            fault("{}", 1);
        });
        of(D, number, "all of them", () -> {
            String all = "{^F1 A a a B b b C c c D d d E e e F f +f 6 : r *r 5}";
            fault(all, NONE);
            Due.run(all, 2, 7);
            Due.run(all.replace("^F1", "^A4"), 2, 4);
            Due.run(all.replace("^F1", "4"), 2, 20);
            Machine m = Due.loaded(all);
            due("expressions", m.load(), 2 + 1 + 5 + 3 + 3);
            m.run(1);
            due("clauses for operations", m.frame(0, 1), 6);
        });
        String once = "each operation and the return have at most one clause, and the clauses may be in any order";
        of(D, once, "at most one", () -> {
            for (char c : "ABCDEF:".toCharArray()) {
                fault("{1" + c + "x1}", NONE);
                fault("{1" + c + "x1" + c + "y2}", 5);
                fault("{1" + c + "x{1" + c + "x1}}", NONE);
                fault("{{1" + c + "x1}" + c + "x1}", NONE);
                for (char other : "ABCDEF:".toCharArray()) {
                    fault("{1" + c + "x1" + other + "y2" + c + "z3}", other == c ? 5 : 8);
                }
            }
        });
        of(D, once, "any order", () -> {
            String[] clauses = {"Aa1", "Bb2", "Cc3", "Dd4", "Ee5", "Ff6", ":r7"};
            for (int shift = 0; shift < 7; shift++) {
                StringBuilder forth = new StringBuilder("{0");
                StringBuilder back = new StringBuilder("{0");
                for (int i = 0; i < 7; i++) {
                    forth.append(clauses[(i + shift) % 7]);
                    back.append(clauses[(7 - i + shift) % 7]);
                }
                lists(forth + "}", "{0Aa1Bb2Cc3Dd4Ee5Ff6:r7}");
                lists(back + "}", "{0Aa1Bb2Cc3Dd4Ee5Ff6:r7}");
            }
        });
    }

    /** The forms that have no variable of their own, with their expressions. */
    private static final String[] FORMS = {"!.", "+. .", "-. .", "*. .", "<. .", "?. . .", ";. .", "^A.", "~A.", "%. .", "&0.",
        "{.}", "{. }", "+! . ! ."};

    private static void bindings() {
        String bound = "A variable is bound in the second expression of =, in a clause by its x, and where it is bound by an"
                + " expression around;";
        of(D, bound, "in the second expression of = alone", () -> {
            fault("=y1 y", NONE);
            fault("=yy 1", 2);
            fault("+=y1 y y", 7);
            fault("=y1 =zy +yz", NONE);
            fault("=y=z1 z z", 8);
            fault("?=y1 y y 1", 7);
        });
        of(D, bound, "by nothing else", () -> {
            for (char x = 'a'; x <= 'z'; x++) {
                char y = x == 'z' ? 'a' : (char) (x + 1);
                for (String form : FORMS) {
                    for (int at = form.indexOf('.'); at >= 0; at = form.indexOf('.', at + 1)) {
                        String text = form.substring(0, at).replace('.', '1') + x;
                        due("fault(0) of '=" + y + " 0 " + text + "'", faultOf("=" + y + " 0 " + text, 0), 5 + at);
                        due("fault(1) of '" + text + "'", faultOf("=" + y + " 0 " + text, 1) == 5 + at ? 1 : 0, x == 'x' ? 0 : 1);
                        fault("=" + x + " 0 " + text + form.substring(at + 1).replace('.', '1'), NONE);
                    }
                }
            }
        });
        of(D, bound, "and nothing else changes its value", () -> {
            String[] forms = {"!#", "+0 #", "-# 0", "*1 #", "?1 # 0", "?0 0 #", ";0 #", "%# 0", "~A#", "&0 #", "{#}", "{# A % 0}",
                "{0 : % #}", "{^A0 A % #}", "=% 0 #", "=% # %"};
            for (char x = 'a'; x <= 'z'; x++) {
                String other = "" + (x == 'z' ? 'a' : (char) (x + 1));
                for (String form : forms) {
                    String text = form.equals("%# 0") ? "%" + x + " 0" : form.replace("%", other).replace('#', x);
                    Machine m = Due.ran("=" + x + " 7 " + text);
                    due("state of " + text, m.told(0), 2);
                    due("value of " + text, m.value(), 7);
                }
            }
        });
        of(D, bound, "in a clause by its x alone", () -> {
            fault("{1Ayy}", NONE);
            fault("{1:yy}", NONE);
            fault("{yAy1}", 1);
            fault("{1AyyByz}", 7);
            fault("{1Ayy:zy}", 7);
            fault("{1:yyAzy}", 7);
            fault("+{1Ayy}y", 7);
            fault("{1Ayz}", 4);
        });
        of(D, bound, "by an expression around", () -> {
            fault("=y1 {yAz+zy:w+wy}", NONE);
            fault("=y1 ;%y y ?y !y ^Ay", NONE);
            fault("{1Ay{yBz+yz:w+yw}}", NONE);
            fault("{1Ay=z@y +yz}", NONE);
            Due.run("=y 3 {^A4 A z =w 10 +y *z w}", 2, 43);
        });
        of(D, "in a procedure, x alone (this letter) is bound at first, and in the main expression nothing.", () -> {
            for (char c = 'a'; c <= 'z'; c++) {
                fault("" + c, 0, c == 'x' ? NONE : 0);
                fault("!" + c + " ", 1, c == 'x' ? NONE : 1);
            }
            fault("=y1 x", 4, NONE);
            fault("=x1 x", NONE);
        });
        of(D, "An inner binding hides an outer one.", () -> {
            Due.run("=x 1 +=x 2 x x", 2, 3);
            Due.run("=x 1 =x +x 1 =x *x 10 x", 2, 20);
            Due.run("=x 1 {^A2 A x x}", 2, 2);
            Due.run("=x 1 {2 : x x}", 2, 2);
            Due.run("=x 1 {^A2 A y +x y}", 2, 3);
            Machine m = Due.defined(new Machine(), 0, "=x +x 1 x");
            Due.ends(Due.ran(Due.loaded(m, "=x 50 +x &0 7")), "in a procedure", 2, 58);
        });
    }

    private static void resumptions() {
        String stands = "The sign @ can stand only in a clause for an operation (not in the return clause as such, but there,"
                + " too, if the handler itself stands in a clause for an operation);";
        of(D, stands, "in a clause for an operation", () -> {
            fault("{1Ax@x}", NONE);
            fault("{1Ax!?@1 @2 =y@3 %@4 @@y}", NONE);
            fault("@1", 0);
            fault("!@1", 1);
            fault("{@1Ax1}", 1);
            fault("+{1Ax@x}@1", 8);
            fault("{1Ax@x}@", 7);
            fault("{{@1Ax1}Bx1}", 2);
            fault("{1Ax@xBy@y}", NONE);
        });
        of(D, stands, "not in the return clause as such", () -> {
            fault("{1:x@x}", 4);
            fault("{1Ax1:y@y}", 7);
            fault("{1:y@yAx1}", 4);
            fault("{1Ax1:y{1:z@z}}", 11);
            fault("{1Ax1:y{@1Az1}}", 8);
        });
        of(D, stands, "in a return clause, if the handler stands in a clause for an operation", () -> {
            fault("{1Ax{1:y@y}}", NONE);
            fault("{1Ax{@1:y{1:z@z}}}", NONE);
            fault("{1:x{1Ay{1:z@z}}}", NONE);
            fault("{1:x{1Ay@y:z@z}}", 12);
            fault("{1Ax{1By1:y@y}:z@z}", 16);
        });
        of(D, "it belongs to the innermost clause for an operation around it.", () -> {
            // the inner clause's @ adds 100, the outer one's 500
            Due.run("{+500^A1 A x {+100^B2 B y @y}}", 2, 102);
            Due.run("{+500^A1 A x {@2 B y @y}}", 2, 502);
            Due.run("{+500^A1 A x {+100^B2 B y @y : z @z}}", 2, 602);
            Due.run("{+500^A1 A x +{+100^B2 B y @y} @5}", 2, 102 + 505);
            Due.run("{+500^A1 A x {{+100^B2 B y {7 : z @z}} C w @w}}", 2, 107);
        });
    }

    private static void faults() {
        String first = "The fault of a text is the position, from 0, of the first byte that cannot stand there;";
        of(D, first, "the first byte, the last byte, and the one behind an expression", () -> {
            fault(")", 0);
            fault("}1", 0);
            fault("!" + "!".repeat(118) + ")", 119);
            fault("1)", 1);
            fault("1 1", 2);
            fault("+1 2!", 4);
            fault("{1}}", 3);
            fault("{1})(", 3);
            fault("))", 0);
        });
        of(D, first, "where an expression is due", () -> {
            for (char c = 32; c <= 126; c++) {
                boolean isWhole = Character.isDigit(c);
                boolean begins = " +-*<?;=!^~%&{".indexOf(c) >= 0;
                int want = isWhole ? NONE : begins ? 2 : 1;
                fault("!" + c, want, c == 'x' ? NONE : want);
            }
        });
        of(D, first, "where a clause is due", () -> {
            for (char c = 32; c <= 126; c++) {
                boolean stands = " ABCDEF:}".indexOf(c) >= 0;
                fault("{!{1}" + c, c == '}' ? NONE : stands ? 6 : 5);
            }
        });
        of(D, first, "where a variable, an operation or a procedure is due", () -> {
            for (char c = 32; c <= 126; c++) {
                int variable = c == ' ' || c >= 'a' && c <= 'z' ? 1 : 0;
                int operation = c == ' ' || c >= 'A' && c <= 'F' ? 1 : 0;
                int procedure = c == ' ' || c >= '0' && c <= '3' ? 1 : 0;
                fault("=" + c, 1 + variable);
                fault("{1A" + c, 3 + variable);
                fault("{1:" + c, 3 + variable);
                fault("^" + c, 1 + operation);
                fault("~" + c, 1 + operation);
                fault("&" + c, 1 + procedure);
            }
        });
        of(D, first, "where nothing is due", () -> {
            for (char c = 32; c <= 126; c++) {
                fault("{1}" + c, c == ' ' ? NONE : 3);
            }
        });
        String also = "this is also that of a variable that is not bound there, of an @ that cannot stand there, and of the"
                + " letter of an operation, or of the :, of a second clause for the same.";
        of(D, also, "a variable", () -> fault("+1 =z1 y", 7));
        of(D, also, "an @", () -> fault("+1 =z1 @z", 7));
        of(D, also, "a second clause", () -> {
            fault("{1 F x 1  F y 1}", 10);
            fault("{1 : x 1  : y 1}", 10);
            fault("{1 F x 1  F", 10);
            fault("{1 F x 1  :", 11);
        });
        of(D, "If the text ends too early, it is the length of the text.", () -> {
            fault("", 0);
            String whole = "?+1 2 =y ^A ~B 1 {%&0 y 3 C z @z : w w} ;!4 -5 *6 <7 8";
            fault(whole, NONE);
            for (int n = 0; n < whole.length(); n++) {
                fault(whole.substring(0, n), n);
            }
            fault("!".repeat(120), 120);
            fault("!".repeat(119), 119);
        });
    }

    // ---- promises 1 to 9

    private static void newObject() {
        String sentence = "Creates a machine without a main expression and procedures, with an empty text.";
        of("Promise 1", sentence, "no main expression", () -> {
            Machine m = new Machine();
            due("state", m.told(0), 0);
            due("restart", m.restart(), STATE);
            due("listing", m.listing(0), STATE);
            due("may", m.may(-1, 0, 0), STATE);
            due("run", m.run(1), STATE);
            due("frames", m.frame(0, 0), BAD);
        });
        of("Promise 1", sentence, "no procedures", () -> {
            Machine m = new Machine();
            due("procedures", m.told(12), 0);
            for (int p = 0; p < 4; p++) {
                due("may", m.may(p, 0, 0), STATE);
                due("undefine", m.undefine(p), 0);
            }
            due("procedures still", m.told(12), 0);
        });
        of("Promise 1", sentence, "an empty text, and nothing in the images", () -> {
            Machine m = new Machine();
            due("bytes", m.told(11), 0);
            due("wipe", m.wipe(), 0);
            due("back(0)", m.back(0), STATE);
            due("back(1)", m.back(1), STATE);
        });
        of("Promise 1", sentence, "objects have nothing in common", () -> {
            Machine m = Due.ran("!^A1");
            m.keep(0);
            m.define(2);
            Due.same("another object", Picture.numbers(new Machine()), Picture.numbers(Subjects.NEW.made()));
            due("its images", new Machine().back(0), STATE);
            due("its procedures", new Machine().may(2, 0, 0), STATE);
        });
    }

    /** The text of a subject again, behind a call that changes the text alone. */
    private static int andTheTextAgain(Machine m, int got) {
        Due.text(m, Subjects.TEXT);
        return got;
    }

    private static void write() {
        of("Promise 2", "Appends a byte to the text.", "at its end", () -> {
            Machine m = Due.text(new Machine(), "1");
            due("write", m.write('2'), 2);
            due("write", m.write('3'), 3);
            m.load();
            Due.listing(m, "123");
        });
        of("Promise 2", "Appends a byte to the text.", "and to the text alone", () -> {
            for (Picture.Subject each : Subjects.allBut(Subjects.NEW)) {
                each.unchangedBy("write and the text again", m -> andTheTextAgain(m, m.write('1')), 4);
            }
        });
        of("Promise 2", "- `code`: the byte, 32 to 126", () -> {
            Machine m = new Machine();
            for (int code = 32; code <= 126; code++) {
                due("write(" + code + ")", m.write(code), code - 31);
            }
            due("bytes", m.told(11), 95);
        });
        of("Promise 2", "Returns the new length of the text;", () -> {
            Machine m = new Machine();
            for (int n = 1; n <= 120; n++) {
                due("write " + n, m.write(' '), n);
                due("told " + n, m.told(11), n);
            }
            due("wipe", m.wipe(), 120);
            due("write again", m.write(' '), 1);
        });
        of("Promise 2", "BAD if code is out of range;", () -> {
            for (int bad : new int[] {31, 127, 0, -1, 32 + 256, 48 + 65536, MIN, MAX}) {
                for (Picture.Subject each : Subjects.all()) {
                    each.unchangedBy("write(" + bad + ")", m -> m.write(bad), BAD);
                }
            }
        });
        of("Promise 2", "FULL if the text has 120 bytes.", () -> {
            Machine m = Due.text(new Machine(), "!".repeat(118) + "1");
            due("write to 120", m.write('2'), 120);
            due("write to 121", m.write('3'), FULL);
            due("write to 121", m.write(' '), FULL);
            due("bytes", m.told(11), 120);
            m.load();
            Due.listing(m, "!".repeat(118) + "12");
            due("wipe", m.wipe(), 120);
            due("write", m.write('3'), 1);
        });
        of("Promise 2", "FULL if the text has 120 bytes.", "nothing is changed", () -> {
            for (Picture.Subject each : new Picture.Subject[] {Subjects.NEW, Subjects.GOING, Subjects.OPEN}) {
                Picture.Subject full = new Picture.Subject("has a full text and " + each.name, () ->
                        Due.text(each.made(), "!".repeat(118) + "12"));
                full.unchangedBy("write('3')", m -> m.write('3'), FULL);
            }
        });
    }

    private static void wipe() {
        of("Promise 3", "Empties the text.", "of none, some and all bytes", () -> {
            for (int n : new int[] {0, 1, 119, 120}) {
                Machine m = Due.text(new Machine(), "1".repeat(n));
                due("wipe", m.wipe(), n);
                due("bytes", m.told(11), 0);
                due("fault", m.fault(0), 0);
                due("load", m.load(), STATE);
                due("define", m.define(0), STATE);
                due("write", m.write('5'), 1);
                due("load", m.load(), 1);
                Due.listing(m, "5");
            }
        });
        of("Promise 3", "Empties the text.", "and the text alone", () -> {
            for (Picture.Subject each : Subjects.allBut(Subjects.NEW)) {
                each.unchangedBy("wipe and the text again", m -> andTheTextAgain(m, m.wipe()), 3);
            }
            Subjects.NEW.unchangedBy("wipe", Machine::wipe, 0);
        });
        of("Promise 3", "Returns the length that it had.", () -> {
            Machine m = new Machine();
            due("wipe of the empty text", m.wipe(), 0);
            due("wipe of one byte", Due.text(m, "1").wipe(), 1);
            due("wipe again", m.wipe(), 0);
            due("wipe of 120 bytes", Due.text(m, " ".repeat(120)).wipe(), 120);
            due("wipe again", m.wipe(), 0);
        });
    }

    private static void fault() {
        of("Promise 4", "Checks the text.", "and changes nothing", () -> {
            for (Picture.Subject each : Subjects.allBut(Subjects.NEW)) {
                each.unchangedBy("fault(0)", m -> m.fault(0), 2);
                each.unchangedBy("fault(1)", m -> m.fault(1), NONE);
            }
            Subjects.NEW.unchangedBy("fault(1)", m -> m.fault(1), 0);
        });
        of("Promise 4", "- `how`: 0 as the main expression, 1 as the body of a procedure", () -> {
            fault("x", 0, NONE);
            fault("+x y", 1, 3);
            fault("1", NONE, NONE);
        });
        of("Promise 4", "Returns its fault;", () -> {
            fault("", 0);
            fault("+1", 2);
            fault("+1 2 3", 5);
        });
        of("Promise 4", "NONE if it is the text of an expression;", () -> {
            fault("+1 2", NONE);
            fault("+1", 2);
            fault("+1 2 ", NONE);
        });
        of("Promise 4", "BAD if how is out of range.", () -> {
            for (int bad : new int[] {-1, 2, 256, MIN, MAX}) {
                Subjects.NEW.unchangedBy("fault(" + bad + ")", m -> m.fault(bad), BAD);
                due("fault(" + bad + ") of an expression", Due.text(new Machine(), "1").fault(bad), BAD);
            }
        });
    }

    private static void load() {
        String sentence = "Reads the main expression from the text, which stays, and begins a run: it is the focus, there are no"
                + " frames, the trace is empty, and all numbers of the run are 0.";
        of("Promise 5", sentence, "in every state", () -> {
            for (Picture.Subject each : Subjects.all()) {
                Machine m = Due.text(each.made(), "!^A+4 5");
                int defined = m.told(12);
                due("load of a machine that " + each.name, m.load(), 5);
                due("state", m.told(0), 1);
                due("focus", m.focus(), 2);
                due("value", m.value(), 0);
                for (int what = 1; what <= 9; what++) {
                    due("told(" + what + ") of a machine that " + each.name, m.told(what), 0);
                }
                due("no operation", m.told(10), NONE);
                due("the text stays", m.told(11), 7);
                due("procedures", m.told(12), defined);
                due("no frame", m.frame(0, 0), BAD);
                due("the trace is empty", m.trace(0), NONE);
                for (int a = 0; a < 6; a++) {
                    due("performed", m.performed(a), 0);
                    due("handler", m.handler(a), NONE);
                }
                Due.listing(m, "!^A+4 5");
                due("run to the operation", m.run(200), 3);
                due("its steps", m.told(1), 8);
                due("its frames", m.told(3), 3);
                m.answer(8);
                Due.ends(Due.ran(m), "the new run", 2, 8, 8);
            }
        });
        of("Promise 5", sentence, "the text, the procedures and the images stay", () -> {
            for (Picture.Subject each : Subjects.all()) {
                kept(each, "!^A1").unchangedBy("load and back", m -> {
                    int loaded = m.load();
                    m.back(0);
                    return loaded;
                }, 3);
            }
        });
        of("Promise 5", "Returns the number of expressions in it, itself included;", () -> {
            String[] texts = {"1", "!1", "+1 2", "?1 2 3", "{1}", "{1A x 2}", "{1A x x:y y B z @z}", "=x 1 x", "&0 ~A ^B %1 2",
                "!".repeat(119) + "1", "+".repeat(29) + "100".repeat(30)};
            int[] numbers = {1, 2, 3, 4, 2, 3, 6, 3, 6, 120, 59};
            for (int i = 0; i < texts.length; i++) {
                due("load of " + texts[i], Due.text(new Machine(), texts[i]).load(), numbers[i]);
            }
        });
        of("Promise 5", "STATE if the text has a fault.", () -> {
            for (String bad : new String[] {"", " ", "+1", "x", "1 1", "@1", "!".repeat(120), "!".repeat(118) + "1!"}) {
                Machine m = Due.text(Subjects.OPEN.made(), bad);
                String before = Picture.numbers(m);
                due("load of '" + bad + "'", m.load(), STATE);
                Due.same("the run", Picture.numbers(m), before);
                due("restart of the main expression that stays", m.restart(), 3);
                due("run", m.run(200), 3);
            }
            for (Picture.Subject each : Subjects.all()) {
                each.unchangedBy("load()", Machine::load, STATE);
            }
        });
    }

    /** Subjects that also have what they are in image 0, so that a change of them can be taken back. */
    private static Picture.Subject kept(Picture.Subject each, String text) {
        return new Picture.Subject("is kept and " + each.name, () -> {
            Machine m = Due.text(each.made(), text);
            m.keep(0);
            return m;
        });
    }

    private static void define() {
        String reads = "Reads the body of a procedure from the text, which stays;";
        of("Promise 6", reads, "the text, the run and the images stay", () -> {
            for (Picture.Subject each : Subjects.all()) {
                kept(each, "%!x 5").unchangedBy("define and back", m -> {
                    String before = Picture.numbers(m).replaceAll(" \\d+ value", " value");
                    int defined = m.define(0);
                    Due.same("the run", Picture.numbers(m).replaceAll(" \\d+ value", " value"), before);
                    m.back(0);
                    return defined;
                }, 4);
            }
        });
        of("Promise 6", reads, "the smallest and the longest one", () -> {
            Machine m = Due.defined(new Machine(), 0, "!".repeat(119) + "x");
            Due.defined(m, 3, "x");
            due("procedures", m.told(12), 2);
            Due.ends(Due.ran(Due.loaded(m, "&3 5")), "the smallest", 2, 5);
            due("the longest", Due.ran(Due.loaded(m, "&0 5")).told(0), 4);
        });
        of("Promise 6", "it replaces the one that the procedure had.", () -> {
            Machine m = Due.defined(new Machine(), 0, "+x 1");
            Due.defined(m, 0, "*x 10");
            due("procedures", m.told(12), 1);
            Due.ends(Due.ran(Due.loaded(m, "&0 5")), "the second body", 2, 50);
            Due.defined(m, 1, "7");
            Due.ends(Due.ran(Due.loaded(m, "&0 5")), "another procedure", 2, 50);
        });
        String goesOn = "A run goes on with the new body from then on (expressions that are in the focus or in frames stay).";
        of("Promise 6", goesOn, "up to the step of the call", () -> {
            for (int steps = 0; steps <= 4; steps++) {
                Machine m = Due.loaded(Due.defined(new Machine(), 0, "+x 1"), "!&0 5");
                m.run(200);
                m.restart();
                due("the steps before", steps == 0 ? 1 : m.run(steps), 1);
                Due.defined(m, 0, "*x 10");
                due("the run stays", m.told(1), steps);
                Due.ends(Due.ran(m), "a body that is new behind step " + steps, 2, steps < 4 ? 50 : 6, steps < 4 ? 50 : 6);
                Due.ends(Due.ran(restarted(m)), "the next run", 2, 50, 50);
            }
        });
        of("Promise 6", goesOn, "expressions in frames stay", () -> {
            Machine m = Due.loaded(Due.defined(new Machine(), 0, "+x ;^A1 +x 1"), "&0 5");
            m.run(200);
            Due.defined(m, 0, "7");
            m.answer(0);
            Due.ends(Due.ran(m), "the old body", 2, 11);
        });
        of("Promise 6", "- `p`: the procedure, 0 to 3", () -> {
            Machine m = new Machine();
            for (int p = 0; p < 4; p++) {
                Due.text(m, "+x " + p);
                due("define", m.define(p), 3);
            }
            for (int p = 0; p < 4; p++) {
                Due.ends(Due.ran(Due.loaded(m, "&" + p + " 10")), "procedure " + p, 2, 10 + p);
            }
        });
        of("Promise 6", "Returns the number of expressions in the body;", () -> {
            Machine m = new Machine();
            due("define", Due.text(m, "x").define(0), 1);
            due("define", Due.text(m, "!".repeat(119) + "x").define(0), 120);
            due("define", Due.text(m, "{x A x @x : y y}").define(0), 5);
        });
        of("Promise 6", "BAD if there is no such procedure;", () -> {
            for (int bad : new int[] {-1, 4, MIN, MAX}) {
                for (Picture.Subject each : Subjects.all()) {
                    each.unchangedBy("define(" + bad + ")", m -> m.define(bad), BAD);
                }
            }
        });
        of("Promise 6", "STATE if the text has a fault.", () -> {
            for (String bad : new String[] {"", " ", "+x", "y", "x 1", "@1", "!".repeat(120)}) {
                Picture.Subject subject = new Picture.Subject("has the text '" + bad + "'", () ->
                        Due.text(Subjects.GOING.made(), bad));
                for (int p = 0; p < 4; p++) {
                    int procedure = p;
                    subject.unchangedBy("define(" + p + ")", m -> m.define(procedure), STATE);
                }
            }
        });
    }

    /** A whole run, and what it shows on its way. */
    private static String allSteps(Machine m) {
        StringBuilder s = new StringBuilder();
        for (int n = 0; n < 12 && m.told(0) == 1; n++) {
            m.run(n < 11 ? 1 + n % 3 : 200);
            s.append(m.frame(0, 0)).append(' ').append(m.frame(0, 1)).append(' ').append(m.frame(1, 1)).append(';');
        }
        return Due.ran(m).told(8) + s.toString() + Picture.numbers(m);
    }

    private static Machine restarted(Machine m) {
        due("restart", m.restart() > 0 ? 1 : 0, 1);
        return m;
    }

    private static void undefine() {
        of("Promise 7", "Removes the body of a procedure.", "and changes nothing else", () -> {
            for (Picture.Subject each : Subjects.all()) {
                kept(each, "1").unchangedBy("undefine and back", m -> {
                    int defined = m.told(12);
                    int was = m.undefine(3);
                    due("procedures", m.told(12), defined - was);
                    due("may", m.may(3, 0, 0), STATE);
                    m.back(0);
                    return was;
                }, each == Subjects.NEW ? 0 : 1);
            }
        });
        of("Promise 7", "Removes the body of a procedure.", "what is in the focus or in frames stays", () -> {
            for (int steps = 1; steps <= 4; steps++) {
                Machine m = Due.loaded(Due.defined(new Machine(), 2, "+x 1"), "!&2 5");
                m.run(steps);
                due("undefine", m.undefine(2), 1);
                Due.ends(Due.ran(m), "a body that is removed behind step " + steps, 2, steps < 4 ? 5 : 6, steps < 4 ? 5 : 6);
            }
        });
        of("Promise 7", "- `p`: the procedure, 0 to 3", () -> {
            for (int p = 0; p < 4; p++) {
                Machine m = new Machine();
                for (int q = 0; q < 4; q++) {
                    Due.defined(m, q, "+x 1");
                }
                due("undefine(" + p + ")", m.undefine(p), 1);
                due("procedures", m.told(12), 3);
                for (int q = 0; q < 4; q++) {
                    due("may(" + q + ")", m.may(q, 0, 0), q == p ? STATE : 0);
                }
            }
        });
        of("Promise 7", "Returns 1 if it was defined, otherwise 0;", () -> {
            Machine m = new Machine();
            due("of a new object", m.undefine(0), 0);
            Due.defined(m, 1, "x");
            due("of another one", m.undefine(0), 0);
            due("defined", m.undefine(1), 1);
            due("again", m.undefine(1), 0);
            Due.defined(m, 1, "x");
            due("defined again", m.undefine(1), 1);
        });
        of("Promise 7", "BAD if there is no such procedure.", () -> {
            for (int bad : new int[] {-1, 4, MIN, MAX}) {
                for (Picture.Subject each : Subjects.all()) {
                    each.unchangedBy("undefine(" + bad + ")", m -> m.undefine(bad), BAD);
                }
            }
        });
    }

    private static void restart() {
        of("Promise 8", "Begins the run of the main expression anew.", "all is as behind load", () -> {
            String[] texts = {"!1", ";!7 +^A1 2", "{%^A1 !2 A x +@x @3}", "&1 1", "&2 1", "!".repeat(101) + "1"};
            for (String text : texts) {
                for (int steps : new int[] {0, 1, 2, 6, 1000}) {
                    Machine m = Due.defined(Due.defined(new Machine(), 1, "!&1 x"), 2, "%!&2 x 1");
                    Due.loaded(m, text);
                    String before = Picture.numbers(m) + Picture.frames(m);
                    for (int i = 0; i < steps; i++) {
                        i += steps == 1000 ? 199 : 0;
                        m.run(steps == 1000 ? 200 : 1);
                    }
                    restarted(m);
                    Due.same("restart", Picture.numbers(m) + Picture.frames(m), before);
                }
            }
        });
        of("Promise 8", "Begins the run of the main expression anew.", "the next run is as the first one", () -> {
            String[] texts = {"{%^A1 !2 A x ;@3 @4}", "{+^A1 ^A2 A x %@x !5}", "%%1 !2 !3", "{^A1 A x x}", "{{%^A1 !2 A x ^B3} B x 4}",
                "!".repeat(101) + "1", "&2 1", "+!1 ^A2"};
            for (String text : texts) {
                Machine m = Due.loaded(Due.defined(new Machine(), 2, "%!&2 x 1"), text);
                String first = allSteps(m);
                restarted(m);
                Due.same("the second run of " + text, allSteps(m), first);
                Machine cut = Due.loaded(Due.defined(new Machine(), 2, "%!&2 x 1"), text);
                cut.run(7);
                restarted(cut);
                Due.same("the run of " + text + " behind one that was cut off", allSteps(cut), first);
            }
        });
        of("Promise 8", "Begins the run of the main expression anew.", "the thirtieth run is as the first one", () -> {
            // 58 finalizers, or resumptions, in each run of a thousand steps
            Machine m = Due.loaded(Due.defined(new Machine(), 0, "?x ;%1 !2 &0 -x 1 0"), "&0 40");
            Machine n = Due.loaded(Due.defined(new Machine(), 0, "?x ;{^A1 A y @y} &0 -x 1 0"), "&0 40");
            for (int runs = 1; runs <= 30; runs++) {
                Due.ran(m);
                Due.ran(n);
                due("finalizers of run " + runs, m.told(9), 40);
                due("values of run " + runs, m.told(4), 40);
                due("resumptions of run " + runs, n.told(6), 40);
                due("uses of run " + runs, n.told(7), 40);
                due("state", m.told(0), 2);
                due("restart", m.restart(), 2);
                due("restart", n.restart(), 2);
            }
            Due.loaded(m, "{%^A1 !2 A x ;@3 ;@4 5}");
            Due.ends(Due.ran(m), "a finalizer behind many", 2, 5, 2);
            due("finalizers", m.told(9), 1);
            Due.loaded(n, "{^A1 A x ;@3 @4}");
            Due.ends(Due.ran(n), "a resumption behind many", 2, 4);
            due("used more than once", n.told(8), 1);
        });
        of("Promise 8", "Begins the run of the main expression anew.", "and changes nothing else", () -> {
            for (Picture.Subject each : Subjects.allBut(Subjects.NEW, Subjects.UNLOADED)) {
                kept(each, "+1").unchangedBy("restart and back", m -> {
                    int was = m.restart();
                    m.back(0);
                    return was;
                }, each.made().told(0));
            }
        });
        of("Promise 8", "Returns the previous state of the run;", () -> {
            Picture.Subject[] subjects = {Subjects.GOING, Subjects.VALUE, Subjects.ENDED, Subjects.OPEN, Subjects.DEEP, Subjects.OUT};
            int[] states = {1, 1, 2, 3, 4, 5};
            for (int i = 0; i < states.length; i++) {
                Machine m = subjects[i].made();
                due("restart of a machine that " + subjects[i].name, m.restart(), states[i]);
                due("restart again", m.restart(), 1);
            }
        });
        of("Promise 8", "STATE if nothing has been loaded.", () -> {
            Subjects.NEW.unchangedBy("restart", Machine::restart, STATE);
            Subjects.UNLOADED.unchangedBy("restart", Machine::restart, STATE);
            Machine m = Subjects.UNLOADED.made();
            due("restart behind a load that failed", m.load(), STATE);
            due("restart", m.restart(), STATE);
            Due.loaded(m, "1");
            due("restart of what was loaded", m.restart(), 1);
            due("back", m.back(1), 0);
            due("restart behind going back to nothing", m.restart(), STATE);
        });
    }

    private static void listing() {
        String byteOf = "Returns a byte of the main expression, written without blanks, except for one blank between two numbers"
                + " that would stand directly one behind the other.";
        of("Promise 9", byteOf, "without blanks", () -> {
            lists("  +   ! 1    ! 2  ", "+!1!2");
            lists("= x 1 + x 2", "=x1+x2");
            lists("{ 1 A x x : y y }", "{1Axx:yy}");
            lists("? { 1 } 2 { 3 }", "?{1}2{3}");
            lists("1" + " ".repeat(119), "1");
        });
        of("Promise 9", byteOf, "one blank between two numbers", () -> {
            lists("+1 2", "+1 2");
            lists("+1    2", "+1 2");
            lists("+1234", "+123 4");
            lists("+123456", "+123 456");
            lists("+0001", "+0 1");
            lists("?1 2 3", "?1 2 3");
            lists("++1 2 3", "++1 2 3");
            lists("+1 +2 3", "+1+2 3");
            lists("=x1 2", "=x1 2");
            lists("+=x1 2 3", "+=x1 2 3");
            lists("+ &0 1 2", "+&01 2");
            lists("+1 &0 2", "+1&02");
            lists("+1 {2}", "+1{2}");
            lists("{1 A x 2 B x 3}", "{1Ax2Bx3}");
        });
        of("Promise 9", byteOf, "the longest one", () -> {
            StringBuilder wide = new StringBuilder("+".repeat(29) + "100");
            for (int i = 1; i < 30; i++) {
                wide.append(' ').append(100 + i);
            }
            lists(wide.toString().replaceAll("(\\d) ", "$1") + " ", wide.toString());
            due("bytes", wide.length(), 29 + 90 + 29);
            lists("!".repeat(119) + "7", "!".repeat(119) + "7");
        });
        of("Promise 9", byteOf, "of the main expression alone", () -> {
            Machine m = Due.loaded(Due.defined(new Machine(), 0, "+x 1"), "!&0 7");
            Due.text(m, "+");
            Due.listing(m, "!&07");
            m.load();
            Due.listing(m, "!&07");
            Due.ran(m);
            Due.listing(m, "!&07");
            Due.listing(Due.loaded(m, "5"), "5");
        });
        of("Promise 9", "Numbers are written without leading zeros;", () -> {
            String[] written = {"0", "00", "000", "1", "01", "001", "010", "10", "099", "100", "105", "999", "009", "090", "900"};
            for (String each : written) {
                lists(each, "" + Integer.parseInt(each));
            }
            lists("+000 000", "+0 0");
            lists("&0 001", "&01");
        });
        of("Promise 9", "the clauses of a handler are written in the order of their operations, A first, and the return clause last.",
                () -> {
            lists("{0:r7Ff6Ee5Dd4Cc3Bb2Aa1}", "{0Aa1Bb2Cc3Dd4Ee5Ff6:r7}");
            lists("{0:r{1:a2Fb3}Ff{4Be5Ac6}}", "{0Ff{4Ac6Be5}:r{1Fb3:a2}}");
            lists("{0:r1}", "{0:r1}");
            lists("{0}", "{0}");
        });
        of("Promise 9", "- `k`: the index of the byte, 0 or more", () -> {
            Machine m = Due.loaded("+12 3");
            due("listing(-1)", m.listing(-1), BAD);
            due("listing(0)", m.listing(0), '+');
            due("listing(4)", m.listing(4), '3');
        });
        of("Promise 9", "Returns its code;", "and changes nothing", () -> {
            for (Picture.Subject each : Subjects.allBut(Subjects.NEW, Subjects.UNLOADED)) {
                each.unchangedBy("listing(0)", m -> m.listing(0), each.made().listing(0));
            }
        });
        of("Promise 9", "NONE if the text has not so many;", () -> {
            String[] texts = {"7", "+1 2", "!".repeat(119) + "7", "+".repeat(29) + "997".repeat(30)};
            int[] bytes = {1, 4, 120, 148};
            for (int i = 0; i < texts.length; i++) {
                Machine m = Due.loaded(texts[i]);
                due("the last byte of " + texts[i], m.listing(bytes[i] - 1), i == 1 ? '2' : '7');
                due("behind it", m.listing(bytes[i]), NONE);
                due("far behind it", m.listing(MAX), NONE);
            }
            Subjects.ENDED.unchangedBy("listing(MAX)", m -> m.listing(MAX), NONE);
        });
        of("Promise 9", "BAD if k is negative;", () -> {
            for (Picture.Subject each : Subjects.all()) {
                each.unchangedBy("listing(-1)", m -> m.listing(-1), BAD);
                each.unchangedBy("listing(MIN)", m -> m.listing(MIN), BAD);
            }
        });
        of("Promise 9", "STATE if nothing has been loaded.", () -> {
            Subjects.NEW.unchangedBy("listing(0)", m -> m.listing(0), STATE);
            Subjects.UNLOADED.unchangedBy("listing(0)", m -> m.listing(0), STATE);
            Machine m = Due.loaded(Subjects.UNLOADED.made(), "1");
            due("listing(0)", m.listing(0), '1');
            due("back", m.back(1), 0);
            due("listing(0) of nothing again", m.listing(0), STATE);
        });
    }
}
