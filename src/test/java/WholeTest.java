import java.util.List;

/**
 * Terms 2 to 4 as a whole, on many small programs: a run ends as the text itself, worked out with nothing lifted; and a
 * lifted program's text, read again, has nothing left to lift, so all that there is of its functions and runs is the
 * same.
 */
public final class WholeTest {
    private static final int PROGRAMS = 3000;
    private static final int CALLS = 100;
    private static final int SIGNS_MOST = 400;
    private static int lifted = 0;
    private static int rows = 0;
    private static int reread = 0;

    public static void main(String[] args) {
        for (int seed = 0; seed < PROGRAMS; seed++) {
            List<Source.Function> functions = Sketch.of(seed);
            String text = Source.text(Sketch.DATA, functions);
            if (text.length() <= SIGNS_MOST) {
                Forge x = Check.forge(text);
                lifted += x.about(0) > functions.size() ? 1 : 0;
                asWritten(x, text, Closures.run(functions, CALLS));
                again(Check.forge(text), text);
            }
        }
        Check.due("many have something lifted", lifted > PROGRAMS / 4 ? 1 : 0, 1);
        Check.due("many end with a row", rows > PROGRAMS / 8 ? 1 : 0, 1);
        Check.due("many are read again", reread > PROGRAMS / 4 ? 1 : 0, 1);
        Check.close("WholeTest");
    }

    private static void asWritten(Forge x, String text, String due) {
        x.run(false, CALLS);
        if (isOutOfCells(x)) {
            return;
        }
        String lazy = row(x);
        Check.due("LAZY " + text, x.result(0) + " " + x.result(1) + " " + x.result(2) + " " + lazy, due);
        boolean ends = x.result(0) == 1;
        x.run(true, CALLS);
        if (ends && x.result(0) != 3) {
            rows++;
            Check.due("EAGER " + text, x.result(0) + " " + row(x), "1 " + lazy);
        }
    }

    private static boolean isOutOfCells(Forge x) {
        return x.result(0) == 3 && x.result(1) == 2;
    }

    /** How many numbers there are, and the first ones. */
    private static String row(Forge x) {
        int many = x.result(9);
        StringBuilder row = new StringBuilder(many + ":");
        for (int i = 0; i < many && i < Closures.SHOWN; i++) {
            row.append(" ").append(x.number(i));
        }
        return row.toString();
    }

    private static void again(Forge x, String text) {
        int functions = x.about(0);
        if (functions > 8 || hasMoreThanFive(x) || x.write() > SIGNS_MOST) {
            return;
        }
        reread++;
        String first = told(x);
        String lazy = ran(x, false);
        String eager = ran(x, true);
        x.take();
        Check.due("functions again of " + text, x.program(), functions);
        if (x.fault(0) != 0) {
            return;
        }
        x.write();
        Check.due("what is told again of " + text, told(x), first);
        Check.due("LAZY again " + text, ran(x, false), lazy);
        Check.due("EAGER again " + text, ran(x, true), eager);
    }

    /** Such functions are lifted ones; no text may have them. */
    private static boolean hasMoreThanFive(Forge x) {
        for (int f = 0; f < x.about(0); f++) {
            if (x.function(f, 0) > 5) {
                return true;
            }
        }
        return false;
    }

    /** All of each function but its free variables, which are parameters now; and how many signs it takes. */
    private static String told(Forge x) {
        StringBuilder told = new StringBuilder();
        int functions = x.about(0);
        told.append(functions).append(" ").append(x.about(1)).append(" ").append(x.about(4));
        for (int f = 0; f < functions; f++) {
            int parameters = x.function(f, 0);
            told.append(" f").append(f).append(" ").append(parameters);
            for (int what = 2; what <= 5; what++) {
                told.append(" ").append(x.function(f, what));
            }
            for (int i = 0; i < parameters; i++) {
                told.append(x.needs(f, i) ? " needs" : " not").append(x.bit(f, 1 << i));
            }
        }
        return told.toString();
    }

    private static String ran(Forge x, boolean eager) {
        x.run(eager, CALLS);
        return Check.results(x);
    }
}
