/** Promises 21 and 22: images. */
public final class ImagesTest {
    private static final int BAD = Due.BAD, STATE = Due.STATE, NONE = Due.NONE;

    private static void due(String what, long got, long want) {
        Due.due(what, got, want);
    }

    private static void ranges() {
        Machine m = new Machine();
        for (int bad : new int[] {-1, 2, Integer.MIN_VALUE, Integer.MAX_VALUE}) {
            due("keep(" + bad + ")", m.keep(bad), BAD);
            due("back(" + bad + ")", m.back(bad), BAD);
        }
        due("back to nothing", m.back(0), STATE);
        due("back to nothing", m.back(1), STATE);
        due("keep when nothing is loaded", m.keep(1), 0);
        due("the other keeps nothing", m.back(0), STATE);
        due("back", m.back(1), 0);
    }

    private static void states() {
        Machine m = Due.loaded("+^A1 2");
        due("keep when it goes on", m.keep(0), 1);
        m.run(200);
        due("keep when open", m.keep(1), 3);
        m.answer(1);
        Due.ran(m);
        due("back to the beginning", m.back(0), 1);
        due("steps", m.told(1), 0);
        due("focus", m.focus(), 2);
        due("performed", m.performed(0), 0);
        due("back when open", m.back(1), 3);
        due("steps", m.told(1), 4);
        due("operation", m.told(10), 0);
        due("argument", m.value(), 1);
        due("performed", m.performed(0), 1);
        Due.kinds(m, "when open", 1);
        m.answer(10);
        Due.ends(Due.ran(m), "the run that was kept", 2, 12);
        due("keep replaces", m.keep(1), 2);
        due("restart", m.restart(), 2);
        due("back", m.back(1), 2);
        due("value", m.value(), 12);
    }

    private static void nothingLoaded() {
        Machine m = Due.defined(new Machine(), 2, "+x 1");
        due("keep", m.keep(0), 0);
        Due.ran(Due.loaded(m, ";!1 ;^A2 3"));
        m.undefine(2);
        due("back", m.back(0), 0);
        for (int what = 0; what <= 9; what++) {
            due("told " + what, m.told(what), 0);
        }
        due("operation", m.told(10), NONE);
        due("the text is not restored", m.told(11), 10);
        due("procedures", m.told(12), 1);
        due("restart", m.restart(), STATE);
        due("listing", m.listing(0), STATE);
        due("may", m.may(-1, 0, 0), STATE);
        due("may of the procedure", m.may(2, 0, 0), 0);
        due("trace", m.trace(0), NONE);
        due("performed", m.performed(0), 0);
        due("value", m.value(), 0);
    }

    /** The main expression and the procedures come back too; the text does not. */
    private static void programs() {
        Machine m = Due.defined(new Machine(), 0, "+x 1");
        Due.loaded(m, "+&0 1 &1 4");
        m.run(4);
        m.keep(0);
        Due.defined(m, 0, "*x 50");
        Due.defined(m, 1, "^Fx");
        Due.loaded(m, "!&0 6");
        Due.ends(Due.ran(m), "the other program", 2, 300, 300);
        m.keep(1);
        due("wipe", m.wipe(), 5);
        due("back", m.back(0), 1);
        Due.listing(m, "+&01&14");
        due("the text stays", m.told(11), 0);
        due("procedures", m.told(12), 1);
        due("may", m.may(-1, 5, 0), 0);
        due("steps", m.told(1), 4);
        Due.ends(Due.ran(m), "the first program", 2, 6);
        due("back to the other", m.back(1), 2);
        Due.listing(m, "!&06");
        Due.trace(m, "the other program", 300);
        due("procedures", m.told(12), 2);
        due("may", m.may(1, 5, 0), 1);
        due("the image stays", m.back(0), 1);
        due("steps", m.told(1), 4);
    }

    /** Which finalizers were executed, and how often resumptions were used, comes back too. */
    private static void marks() {
        Machine m = Due.loaded("{%^A1 !2 A x ;@3 @4}");
        m.run(9);
        Due.kinds(m, "resumed", 9, 12, 4, 14);
        m.keep(0);
        due("used", m.frame(3, 1), 1);
        due("executed", m.frame(0, 1), 0);
        Due.ends(Due.ran(m), "to the end", 2, 4, 2);
        due("finalizers", m.told(9), 1);
        due("used more than once", m.told(8), 1);
        due("back", m.back(0), 1);
        due("used", m.frame(3, 1), 1);
        due("executed", m.frame(0, 1), 0);
        due("finalizers", m.told(9), 0);
        due("used more than once", m.told(8), 0);
        due("trace", m.told(4), 0);
        Due.ends(Due.ran(m), "to the end again", 2, 4, 2);
        due("finalizers", m.told(9), 1);
        m.back(0);
        m.run(1);
        due("executed", m.told(9), 1);
        m.keep(1);
        m.back(0);
        due("not executed", m.frame(0, 1), 0);
        m.back(1);
        Due.ends(Due.ran(m), "from the other image", 2, 4, 2);
        m.restart();
        m.run(6);
        Due.kinds(m, "anew", 4, 14);
        due("not used in this run", m.frame(1, 1), 0);
        Due.ends(Due.ran(m), "anew", 2, 4, 2);
        due("used more than once", m.told(8), 1);
        m.back(0);
        Due.kinds(m, "resumed", 9, 12, 4, 14);
        due("greatest number", m.told(3), 4);
    }

    public static void main(String[] args) {
        ranges();
        states();
        nothingLoaded();
        programs();
        marks();
        Due.finish("ImagesTest");
    }
}
