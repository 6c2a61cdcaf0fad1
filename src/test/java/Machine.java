/** An EffectMachine that counts its calls: nothing is promised about an object after its 512th. */
final class Machine {
    static final int CALLS = 512;

    private final EffectMachine counted = new EffectMachine();
    private int calls = 0;

    private EffectMachine next() {
        calls++;
        if (calls > CALLS) {
            throw new IllegalStateException("the test makes more than " + CALLS + " calls on one object");
        }
        return counted;
    }

    int callsLeft() {
        return CALLS - calls;
    }

    int write(int code) {
        return next().write(code);
    }

    int wipe() {
        return next().wipe();
    }

    int fault(int how) {
        return next().fault(how);
    }

    int load() {
        return next().load();
    }

    int define(int p) {
        return next().define(p);
    }

    int undefine(int p) {
        return next().undefine(p);
    }

    int restart() {
        return next().restart();
    }

    int listing(int k) {
        return next().listing(k);
    }

    int may(int p, int a, int level) {
        return next().may(p, a, level);
    }

    int run(int n) {
        return next().run(n);
    }

    int answer(int v) {
        return next().answer(v);
    }

    int drop(int v) {
        return next().drop(v);
    }

    int told(int what) {
        return next().told(what);
    }

    int value() {
        return next().value();
    }

    int focus() {
        return next().focus();
    }

    int trace(int k) {
        return next().trace(k);
    }

    int performed(int a) {
        return next().performed(a);
    }

    int frame(int k, int what) {
        return next().frame(k, what);
    }

    int handler(int a) {
        return next().handler(a);
    }

    int keep(int i) {
        return next().keep(i);
    }

    int back(int i) {
        return next().back(i);
    }
}
