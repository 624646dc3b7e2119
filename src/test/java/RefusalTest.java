import java.util.function.Consumer;

/**
 * "A call that throws changes nothing; of several exceptions the one that it names first is thrown." Two objects get
 * the same calls; one of them gets all calls that must be refused in that state, too. Then all that can be asked of
 * both has the same answers, and what is due from then on is the same.
 */
public final class RefusalTest {
    private static final int[] BELOW_AND_FAR = {-1, Integer.MIN_VALUE, Integer.MAX_VALUE};

    public static void main(String[] args) {
        state("a new object", x -> { });
        state("a text", x -> Check.text(x, "f a = a + 1; main = f 2;"));
        state("a text that is no program", x -> Check.text(x, "main = "));
        state("a program", x -> Check.program(x, "f a b = a; main = f 1 2;"));
        state("a program and a text", x -> {
            Check.program(x, "f a b = a; main = f 1 2;");
            Check.text(x, "main = 7;");
        });
        state("a run", x -> {
            Check.program(x, "data P 2; f a b = P a b; main = f 1 2;");
            x.run(false, 800);
        });
        state("an eager run, OUT and a text", x -> {
            Check.program(x, "data P 2; f a b = let c = a * b in P c b; main = f 3 4;");
            x.run(true, 800);
            x.write();
            Check.text(x, "main = 7;");
        });
        state("a run with a FAULT", x -> {
            Check.program(x, "data P 2; f a = fail; main = P 3 (f 4);");
            x.run(true, 800);
        });
        state("a run with a CUT", x -> {
            Check.program(x, "data P 2; f a = f a; main = P 3 (f 4);");
            x.write();
            x.run(true, 3);
        });
        state("a fault", x -> Check.program(x, "main = 1 +;"));
        state("a fault behind a program, a run and OUT", x -> {
            Check.program(x, "main = 5;");
            x.write();
            x.run(false, 0);
            Check.program(x, "main = y;");
        });
        fullText();
        allPartsRead();
        allCallsMade();
        Check.close("RefusalTest");
    }

    private static void state(String what, Consumer<Forge> calls) {
        Forge one = new Forge();
        Forge other = new Forge();
        calls.accept(one);
        calls.accept(other);
        refuseAll(what, one);
        Check.due(what + ": all is as it was", all(one), all(other));
        Check.due(what + ": what comes then", then(one), then(other));
    }

    private static void refuseAll(String what, Forge x) {
        boolean program = x.about(0) > 0;
        for (int n : BELOW_AND_FAR) {
            Check.refuses(what + ": end " + n, IllegalArgumentException.class, () -> end(x, n));
            Check.refuses(what + ": fault " + n, IllegalArgumentException.class, () -> x.fault(n));
            Check.refuses(what + ": result " + n, IllegalArgumentException.class, () -> x.result(n));
            Check.refuses(what + ": number " + n, IndexOutOfBoundsException.class, () -> x.number(n));
            Check.refuses(what + ": about " + n, IllegalArgumentException.class, () -> x.about(n));
        }
        Check.refuses(what + ": letter -1", IndexOutOfBoundsException.class, () -> x.letter(-1));
        int signs = x.about(3);
        Check.refuses(what + ": end behind", IllegalArgumentException.class, () -> end(x, signs + 1));
        int numbers = x.result(9);
        Check.refuses(what + ": number behind", IndexOutOfBoundsException.class, () -> x.number(numbers));
        Check.refuses(what + ": fault 2", IllegalArgumentException.class, () -> x.fault(2));
        Check.refuses(what + ": result 10", IllegalArgumentException.class, () -> x.result(10));
        Check.refuses(what + ": about 7", IllegalArgumentException.class, () -> x.about(7));
        Check.refuses(what + ": put", IllegalArgumentException.class, () -> x.put(';' | ';' << 8 | 127 << 16));
        if (program) {
            refuseArguments(what, x);
        } else {
            refuseWithoutProgram(what, x);
        }
    }

    private static void refuseArguments(String what, Forge x) {
        int functions = x.about(0);
        for (int f : new int[] {-1, functions, Integer.MIN_VALUE, Integer.MAX_VALUE}) {
            Check.refuses(what + ": function", IndexOutOfBoundsException.class, () -> x.function(f, -1));
            Check.refuses(what + ": needs", IndexOutOfBoundsException.class, () -> x.needs(f, 0) ? 1 : 0);
            Check.refuses(what + ": bit", IndexOutOfBoundsException.class, () -> x.bit(f, -1));
            Check.refuses(what + ": called", IndexOutOfBoundsException.class, () -> x.called(f));
        }
        int parameters = x.function(0, 0);
        Check.refuses(what + ": function what", IllegalArgumentException.class, () -> x.function(0, 6));
        Check.refuses(what + ": needs what", IndexOutOfBoundsException.class, () -> x.needs(0, parameters) ? 1 : 0);
        Check.refuses(what + ": which bits", IllegalArgumentException.class, () -> x.bit(0, 1 << parameters));
        for (int calls : new int[] {-1, 801, Integer.MIN_VALUE, Integer.MAX_VALUE}) {
            Check.refuses(what + ": run", IllegalArgumentException.class, () -> x.run(false, calls));
            Check.refuses(what + ": run eager", IllegalArgumentException.class, () -> x.run(true, calls));
        }
    }

    private static void refuseWithoutProgram(String what, Forge x) {
        for (int n : new int[] {0, -1, 900}) {
            Check.refuses(what + ": function", IllegalStateException.class, () -> x.function(n, n));
            Check.refuses(what + ": needs", IllegalStateException.class, () -> x.needs(n, n) ? 1 : 0);
            Check.refuses(what + ": bit", IllegalStateException.class, () -> x.bit(n, n));
            Check.refuses(what + ": called", IllegalStateException.class, () -> x.called(n));
            Check.refuses(what + ": run", IllegalStateException.class, () -> x.run(false, n));
        }
        Check.refuses(what + ": write", IllegalStateException.class, () -> x.write());
    }

    private static long end(Forge x, int n) {
        x.end(n);
        return 0;
    }

    /** All that can be asked without a change. */
    private static String all(Forge x) {
        StringBuilder told = new StringBuilder();
        for (int what = 0; what < 7; what++) {
            told.append(x.about(what)).append(" ");
        }
        told.append("| ").append(x.fault(0)).append(" ").append(x.fault(1)).append(" | ").append(Check.results(x));
        told.append(" | ").append(x.result(9) < 20 ? Check.row(x) : "").append(" | ");
        for (int k = 0; k < Math.min(60, x.about(4)); k++) {
            told.append((char) x.letter(k));
        }
        for (int f = 0; f < Math.min(3, x.about(0)); f++) {
            told.append(" | ");
            for (int what = 0; what < 6; what++) {
                told.append(x.function(f, what)).append(" ");
            }
            told.append(x.called(f)).append(" ").append(x.bit(f, 0));
            for (int i = 0; i < x.function(f, 0); i++) {
                told.append(x.needs(f, i) ? " 1" : " 0");
            }
        }
        return told.toString();
    }

    /** What a run, the text that is there, and its run give. */
    private static String then(Forge x) {
        StringBuilder told = new StringBuilder();
        if (x.about(0) > 0) {
            told.append(x.run(true, 5)).append(" ").append(Check.results(x)).append(" ").append(x.write()).append(" | ");
        }
        told.append(x.program()).append(" ").append(x.fault(0)).append(" ").append(x.fault(1)).append(" ").append(x.about(3));
        if (x.about(0) > 0) {
            told.append(" | ").append(x.run(false, 5)).append(" ").append(Check.row(x)).append(" ").append(x.write());
        }
        return told.toString();
    }

    private static void fullText() {
        Forge[] both = new Forge[2];
        for (int i = 0; i < 2; i++) {
            both[i] = Check.forge(Sums.of(3000).source());
            both[i].write();
            both[i].take();
        }
        Forge x = both[0];
        for (int k = 0; k < 4; k++) {
            int shift = 8 * k;
            Check.refuses("a full text: put", UnsupportedOperationException.class, () -> x.put(';' << shift));
            Check.refuses("a full text: a wrong byte first", IllegalArgumentException.class,
                () -> x.put(';' << shift | 1 << (shift + 8) % 32));
        }
        Check.due("a full text: all is as it was", aboutAll(x), aboutAll(both[1]));
        Check.due("a full text: what comes then", then(x), then(both[1]));
    }

    private static String aboutAll(Forge x) {
        StringBuilder told = new StringBuilder();
        for (int what = 0; what < 7; what++) {
            told.append(x.about(what)).append(" ");
        }
        return told.append(Check.results(x)).append(" ").append(x.fault(0)).append(" ").append(x.fault(1)).toString();
    }

    private static void allPartsRead() {
        Forge[] both = new Forge[2];
        for (int i = 0; i < 2; i++) {
            // 34 times 597 parts; before the last time 19701 were read.
            Forge one = Check.forge(Sums.of(2900).source());
            one.write();
            for (int k = 0; k < 33; k++) {
                one.take();
                one.program();
            }
            one.run(false, 0);
            one.put('x');
            both[i] = one;
        }
        Forge x = both[0];
        for (int i = 0; i < 3; i++) {
            Check.refuses("20298 were read", UnsupportedOperationException.class, () -> x.program());
        }
        Check.due("all parts read: all is as it was", aboutAll(x), aboutAll(both[1]));
        for (Forge one : both) {
            Check.due("the program runs", one.run(true, 0), 1);
            Check.due("and is written", one.write(), 2900);
            Check.due("the text is there", one.put('y'), 2);
        }
    }

    private static void allCallsMade() {
        Forge[] both = new Forge[2];
        for (int i = 0; i < 2; i++) {
            both[i] = Check.forge("f x = f x; main = f 1;");
            for (int k = 0; k < 188; k++) {
                both[i].run(false, 800);
            }
        }
        Forge x = both[0];
        Check.refuses("150400 calls", UnsupportedOperationException.class, () -> x.run(false, 0));
        Check.refuses("150400 calls, eager", UnsupportedOperationException.class, () -> x.run(true, 800));
        refuseAll("all calls made", x);
        Check.due("all calls made: all is as it was", all(x), all(both[1]));
        Check.due("all calls made: a program comes", Check.program(x, "main = 1;"), 1);
        Check.refuses("but no run", UnsupportedOperationException.class, () -> x.run(false, 0));
    }
}
