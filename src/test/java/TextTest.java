/** Promises 1 to 4: a new object, put, end, take. */
public final class TextTest {
    public static void main(String[] args) {
        newObject();
        putSigns();
        putTooMuch();
        endText();
        takeOut();
        takeTooMuch();
        Check.close("TextTest");
    }

    private static void newObject() {
        LazyForge x = new LazyForge();
        for (int what = 0; what <= 6; what++) {
            Check.due("new: about " + what, x.about(what), 0);
        }
        for (int what = 0; what <= 9; what++) {
            Check.due("new: result " + what, x.result(what), 0);
        }
        Check.due("new: fault 0", x.fault(0), 0);
        Check.due("new: fault 1", x.fault(1), LazyForge.NONE);
        Check.due("new: letter", x.letter(0), LazyForge.NONE);
        Check.due("new: take", x.take(), 0);
        Check.refuses("new: number", IndexOutOfBoundsException.class, () -> x.number(0));
        Check.refuses("new: write", IllegalStateException.class, () -> x.write());
        Check.refuses("new: run", IllegalStateException.class, () -> x.run(false, -1));
        Check.refuses("new: function", IllegalStateException.class, () -> x.function(-1, -1));
        Check.refuses("new: needs", IllegalStateException.class, () -> x.needs(-1, -1) ? 1 : 0);
        Check.refuses("new: bit", IllegalStateException.class, () -> x.bit(-1, -1));
        Check.refuses("new: called", IllegalStateException.class, () -> x.called(-1));
    }

    private static void putSigns() {
        LazyForge x = new LazyForge();
        Check.due("four", x.put('m' | 'a' << 8 | 'i' << 16 | 'n' << 24), 4);
        Check.due("none", x.put(0), 4);
        Check.due("zeros are left out", x.put('=' << 8 | '7' << 24), 6);
        Check.due("the lowest allowed", x.put(32), 7);
        Check.due("the highest allowed", x.put(126), 8);
        Check.due("a line end", x.put(10), 9);
        for (int bad : new int[] {1, 9, 11, 13, 31, 127, 128, 255}) {
            for (int k = 0; k < 4; k++) {
                int signs = bad << (8 * k) | ' ' << (8 * ((k + 1) % 4));
                Check.refuses("put byte " + bad, IllegalArgumentException.class, () -> x.put(signs));
            }
        }
        Check.due("a refused put adds nothing", x.about(3), 9);
        x.end(6);
        Check.due("the lowest byte comes first", x.put(';'), 7);
        Check.due("main=7;", x.program(), 1);
    }

    private static void putTooMuch() {
        LazyForge x = new LazyForge();
        Check.text(x, Check.repeat(" ", 2998));
        Check.refuses("three more", UnsupportedOperationException.class, () -> x.put(' ' | ' ' << 8 | ' ' << 16));
        Check.refuses("a bad byte first", IllegalArgumentException.class, () -> x.put(' ' | ' ' << 8 | ' ' << 16 | 1 << 24));
        Check.due("nothing was added", x.about(3), 2998);
        Check.due("two with zeros between", x.put(' ' | ' ' << 16), 3000);
        Check.due("zeros always fit", x.put(0), 3000);
        Check.refuses("one more", UnsupportedOperationException.class, () -> x.put(' ' << 24));
    }

    private static void endText() {
        LazyForge x = new LazyForge();
        Check.text(x, "main = 12;");
        Check.refuses("below 0", IllegalArgumentException.class, () -> end(x, -1));
        Check.refuses("above", IllegalArgumentException.class, () -> end(x, 11));
        Check.due("all are there", x.about(3), 10);
        x.end(10);
        Check.due("all stay", x.about(3), 10);
        x.end(8);
        x.put(';');
        x.program();
        x.run(false, 0);
        Check.due("the first signs stayed", x.number(1), 1);
        x.end(0);
        Check.refuses("none are there", IllegalArgumentException.class, () -> end(x, 1));
    }

    private static long end(LazyForge x, int n) {
        x.end(n);
        return 0;
    }

    private static void takeOut() {
        LazyForge x = Check.forge("main = 40 + 2;");
        x.write();
        Check.text(x, "something else");
        Check.due("take", x.take(), "main = (40 + 2);\n".length());
        Check.due("the text", x.about(3), 17);
        Check.due("OUT stays", x.about(4), 17);
        Check.due("it is a program", x.program(), 1);
        x.run(false, 0);
        Check.due("it runs", x.number(1), 42);
        Check.due("it may be taken again", x.take(), 17);
    }

    private static void takeTooMuch() {
        // Each line grows when it is written, so that a text of at most 3000 signs is written with more.
        LazyForge x = Check.forge("main=0;" + sums(20, 15));
        Check.due("more than 3000 written", x.write() > 3000 ? 1 : 0, 1);
        Check.text(x, "main");
        Check.due("take", x.take(), LazyForge.NONE);
        Check.due("nothing happened", x.about(3), 4);
        takeJustEnough();
    }

    /** Each digit more is a sign more of OUT. */
    private static void takeJustEnough() {
        LazyForge x = new LazyForge();
        String text = "main=1;" + sums(17, 15) + "x=1;";
        Check.program(x, text);
        int missing = 3000 - x.write();
        Check.due("some signs are missing, but not one for each number", missing > 0 && missing < 17 * 14 ? 1 : 0, 1);
        StringBuilder just = new StringBuilder(text);
        for (int i = 0; i < missing; i++) {
            int at = just.indexOf("123456+");
            just.replace(at, at + 7, "1234567+");
        }
        Check.program(x, just.toString());
        Check.due("3000 signs", x.write(), 3000);
        Check.due("are taken", x.take(), 3000);
        int at = just.indexOf("123456+");
        just.replace(at, at + 7, "1234567+");
        Check.program(x, just.toString());
        Check.due("3001 signs", x.write(), 3001);
        Check.due("are not", x.take(), LazyForge.NONE);
    }

    private static String sums(int functions, int numbers) {
        StringBuilder text = new StringBuilder();
        for (int f = 0; f < functions; f++) {
            text.append("a").append(f).append("=").append(Check.repeat("123456+", numbers - 1)).append("1;");
        }
        return text.toString();
    }
}
