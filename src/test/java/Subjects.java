/** Machines in every state of a run, with procedures, images and a text that stands at its end. */
final class Subjects {
    /** Has a fault at byte 2 as the main expression, and is the body of a procedure. */
    static final String TEXT = "+1x";

    static final Picture.Subject NEW = new Picture.Subject("is new", Machine::new);
    static final Picture.Subject UNLOADED = new Picture.Subject("has loaded nothing", () -> {
        Machine m = Due.defined(new Machine(), 3, "+x ^C1");
        m.keep(1);
        Due.defined(m, 0, "+x x");
        return Due.text(m, TEXT);
    });
    static final Picture.Subject GOING = new Picture.Subject("goes on with an expression", () -> going(24));
    static final Picture.Subject VALUE = new Picture.Subject("goes on with a value", () -> going(25));
    static final Picture.Subject ENDED = new Picture.Subject("has ended", () -> stopped(";!7 +!9 {^A1 A x @+x 1}"));
    static final Picture.Subject OPEN = new Picture.Subject("is open", () -> stopped("{%!^C4 !2 A x x : y !y}"));
    static final Picture.Subject DEEP = new Picture.Subject("is too deep", () -> stopped("{%&1 1 ^A2 A x x}"));
    static final Picture.Subject OUT = new Picture.Subject("is out of steps", () -> stopped("~D&2 1"));

    private Subjects() {
    }

    static Picture.Subject[] all() {
        return new Picture.Subject[] {NEW, UNLOADED, GOING, VALUE, ENDED, OPEN, DEEP, OUT};
    }

    /** Those with which a call is refused because of the state of the run. */
    static Picture.Subject[] allBut(Picture.Subject... others) {
        Picture.Subject[] rest = new Picture.Subject[all().length - others.length];
        int n = 0;
        for (Picture.Subject each : all()) {
            boolean isOther = false;
            for (Picture.Subject other : others) {
                isOther |= each == other;
            }
            if (!isOther) {
                rest[n++] = each;
            }
        }
        return rest;
    }

    /** Image 1 keeps an open run, image 0 nothing; procedure 3 is not the one that image 1 keeps. */
    private static Machine begun(String text) {
        Machine m = Due.defined(new Machine(), 3, "^Bx");
        Due.ran(Due.loaded(m, "+!5 ^A6"));
        m.keep(1);
        Due.defined(m, 3, "%!x ~C^Cx");
        Due.defined(m, 1, "!&1 x");
        Due.defined(m, 2, "&2 !x");
        m.undefine(0);
        return Due.loaded(m, text);
    }

    private static Machine going(int steps) {
        Machine m = begun("{;%!1 !2 ~B=y ^A 2 %!y 4 A z ;@z @5 : w w}");
        m.run(steps);
        return Due.text(m, TEXT);
    }

    private static Machine stopped(String text) {
        return Due.text(Due.ran(begun(text)), TEXT);
    }

    static void areAsTheySay() {
        int[] states = {0, 0, 1, 1, 2, 3, 4, 5};
        int[] focuses = {0, 0, 2, 1, 0, 0, 0, 0};
        for (int i = 0; i < states.length; i++) {
            Machine m = all()[i].made();
            Due.due("state of a machine that " + all()[i].name, m.told(0), states[i]);
            Due.due("focus of a machine that " + all()[i].name, m.focus(), focuses[i]);
        }
        for (Picture.Subject each : new Picture.Subject[] {GOING, VALUE, OPEN, DEEP, OUT}) {
            Due.due("frames of a machine that " + each.name, each.made().told(2) > 0 ? 1 : 0, 1);
        }
        for (Picture.Subject each : new Picture.Subject[] {GOING, VALUE, ENDED, OUT}) {
            Due.due("trace of a machine that " + each.name, each.made().told(4) > 0 ? 1 : 0, 1);
        }
    }
}
