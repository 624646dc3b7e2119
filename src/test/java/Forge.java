/**
 * A LazyForge that counts its calls. What an object answers behind its 512th call is free, so a test that asks for
 * more tests nothing that is promised: it is told as wrong.
 */
final class Forge {
    private static final int CALLS_MOST = 512;

    private final LazyForge forge = new LazyForge();
    private int calls;

    private LazyForge next() {
        calls++;
        if (calls == CALLS_MOST + 1) {
            Check.tooManyCalls();
        }
        return forge;
    }

    int put(int signs) {
        return next().put(signs);
    }

    void end(int n) {
        next().end(n);
    }

    int take() {
        return next().take();
    }

    int program() {
        return next().program();
    }

    int fault(int what) {
        return next().fault(what);
    }

    int write() {
        return next().write();
    }

    int letter(int k) {
        return next().letter(k);
    }

    int function(int f, int what) {
        return next().function(f, what);
    }

    boolean needs(int f, int i) {
        return next().needs(f, i);
    }

    int bit(int f, int bits) {
        return next().bit(f, bits);
    }

    int run(boolean eager, int calls) {
        return next().run(eager, calls);
    }

    int result(int what) {
        return next().result(what);
    }

    int number(int i) {
        return next().number(i);
    }

    int called(int f) {
        return next().called(f);
    }

    int about(int what) {
        return next().about(what);
    }
}
