/** Promises 1 to 4: a new object, put, end, take. */
public final class TextTest {
    public static void main(String[] args) {
        newObject();
        newObjectWorks();
        putSigns();
        putEachByte();
        putWrongBytes();
        putUpToTheMost();
        putOneTooMany();
        putWrongAndTooMany();
        endText();
        endRefused();
        endOfFullText();
        takeOut();
        takeEmptyOut();
        takeTheMost();
        takeOneTooMany();
        Check.close("TextTest");
    }

    private static void newObject() {
        Forge x = new Forge();
        for (int what = 0; what <= 6; what++) {
            Check.due("new: about " + what, x.about(what), 0);
        }
        for (int what = 0; what <= 9; what++) {
            Check.due("new: result " + what, x.result(what), 0);
        }
        Check.due("new: fault 0", x.fault(0), 0);
        Check.due("new: fault 1", x.fault(1), LazyForge.NONE);
        Check.due("new: letter", x.letter(0), LazyForge.NONE);
        Check.due("new: take", x.take(), 0);
        Check.refuses("new: number", IndexOutOfBoundsException.class, () -> x.number(0));
        Check.refuses("new: write", IllegalStateException.class, () -> x.write());
        Check.refuses("new: run", IllegalStateException.class, () -> x.run(false, 0));
        Check.refuses("new: function", IllegalStateException.class, () -> x.function(0, 0));
        Check.refuses("new: needs", IllegalStateException.class, () -> x.needs(0, 0) ? 1 : 0);
        Check.refuses("new: bit", IllegalStateException.class, () -> x.bit(0, 0));
        Check.refuses("new: called", IllegalStateException.class, () -> x.called(0));
        Check.refuses("new: end", IllegalArgumentException.class, () -> end(x, 1));
        Check.due("new: end 0", end(x, 0), 0);
        Check.due("new: put nothing", x.put(0), 0);
        Check.due("new: no text is no program", x.program(), LazyForge.NONE);
        Check.due("new: a fault's kind", x.fault(0), 1);
        Check.due("new: at the text's end", x.fault(1), 0);
    }

    private static void newObjectWorks() {
        Forge old = Check.forge("data A 0; main = A;");
        old.write();
        old.run(false, 0);
        Check.text(old, "xyz");
        Forge x = new Forge();
        for (int what = 0; what <= 6; what++) {
            Check.due("nothing of another object: about " + what, x.about(what), 0);
        }
        Check.due("nor its OUT", x.letter(0), LazyForge.NONE);
        Check.due("nor its run", x.result(0), 0);
    }

    private static void putSigns() {
        Forge x = new Forge();
        Check.due("four", x.put('m' | 'a' << 8 | 'i' << 16 | 'n' << 24), 4);
        Check.due("none", x.put(0), 4);
        Check.due("zeros are left out", x.put('=' << 8 | '7' << 24), 6);
        Check.due("the lowest byte alone", x.put(';'), 7);
        Check.due("the highest byte alone", x.put(' ' << 24), 8);
        Check.due("the text's signs", x.about(3), 8);
        Check.due("main=7; ", x.program(), 1);
        x.run(false, 0);
        Check.due("in that order", x.number(1), 7);
        Check.due("a text begins anew", x.put('m' | 'a' << 8 | 'i' << 16), 3);
        Check.due("the lowest byte first", x.put('n' | '=' << 8 | '1' << 16 | '2' << 24), 7);
        Check.due("and the last", x.put(';'), 8);
        Check.due("main=12;", x.program(), 1);
        x.run(false, 0);
        Check.due("is read so", x.number(1), 12);
    }

    private static boolean isSign(int sign) {
        return sign == 0 || sign == 10 || sign >= 32 && sign <= 126;
    }

    /** All of the 256 bytes, in each place: 0, 10 and 32 to 126 are taken. */
    private static void putEachByte() {
        for (int place = 0; place < 4; place++) {
            Forge x = new Forge();
            int shift = 8 * place;
            int count = 0;
            for (int b = 0; b < 256; b++) {
                int sign = b;
                if (isSign(sign)) {
                    count += sign == 0 ? 0 : 1;
                    Check.due("put byte " + b + " in place " + place, x.put(sign << shift), count);
                } else {
                    Check.refuses("put byte " + b + " in place " + place, IllegalArgumentException.class,
                        () -> x.put(sign << shift));
                }
            }
            Check.due("taken in place " + place, x.about(3), 96);
        }
    }

    private static void putWrongBytes() {
        for (int bad : new int[] {1, 9, 11, 13, 31, 127, 128, 255}) {
            Forge x = Check.texted("main=3");
            for (int k = 0; k < 4; k++) {
                int signs = '4' * 0x01010101 & ~(255 << (8 * k)) | bad << (8 * k);
                Check.refuses("put byte " + bad, IllegalArgumentException.class, () -> x.put(signs));
                Check.due("nothing of it comes", x.about(3), 6);
            }
            x.put(';');
            x.program();
            x.run(false, 0);
            Check.due("the text is as it was", x.number(1), 3);
        }
        Forge y = new Forge();
        Check.refuses("all bits", IllegalArgumentException.class, () -> y.put(-1));
        Check.refuses("the least int", IllegalArgumentException.class, () -> y.put(Integer.MIN_VALUE));
        Check.refuses("the greatest int", IllegalArgumentException.class, () -> y.put(Integer.MAX_VALUE));
        Check.due("nothing comes", y.about(3), 0);
    }

    /** THE TEXT is a program of so many signs. */
    private static Forge longText(int signs) {
        Forge x = Check.forge(Sums.of(signs).source());
        Check.due("a long OUT", x.write(), signs);
        Check.due("a long text", x.take(), signs);
        return x;
    }

    private static void putUpToTheMost() {
        Forge x = longText(2996);
        Check.due("four up to 3000", x.put(' ' * 0x01010101), 3000);
        Check.due("zeros fit always", x.put(0), 3000);
        Check.due("the full text is read", x.program(), Sums.FUNCTIONS);
        Check.due("up to its end", x.about(2), Sums.PARTS);
        Forge y = longText(2999);
        Check.due("one up to 3000", y.put(' ' << 8), 3000);
        Check.due("its signs", y.about(3), 3000);
        y.end(2998);
        Check.due("two with zeros between", y.put(' ' | ' ' << 16), 3000);
    }

    private static void putOneTooMany() {
        for (int there = 2997; there <= 3000; there++) {
            Forge x = longText(there);
            int more = ' ' * 0x01010101 >>> 8 * (there - 2997);
            Check.refuses("one too many behind " + there, UnsupportedOperationException.class, () -> x.put(more));
            Check.due("nothing of it comes", x.about(3), there);
            Check.refuses("nor in another byte", UnsupportedOperationException.class, () -> x.put(Integer.reverseBytes(more)));
            Check.due("nothing of that either", x.about(3), there);
            Check.due("the text is as it was", x.program(), Sums.FUNCTIONS);
            Check.due("and empty then, so that signs fit", x.put(' ' * 0x01010101), 4);
        }
    }

    private static void putWrongAndTooMany() {
        Forge x = longText(3000);
        Check.refuses("a wrong byte comes first", IllegalArgumentException.class, () -> x.put(' ' | 1 << 24));
        Check.refuses("a wrong byte alone", IllegalArgumentException.class, () -> x.put(127));
        Check.refuses("a good one", UnsupportedOperationException.class, () -> x.put(' '));
        Check.due("nothing comes", x.about(3), 3000);
    }

    private static long end(Forge x, int n) {
        x.end(n);
        return 0;
    }

    private static void endText() {
        Forge x = Check.texted("main = 12;");
        x.end(10);
        Check.due("all stay", x.about(3), 10);
        x.end(9);
        Check.due("all but one", x.about(3), 9);
        x.end(8);
        x.put(';');
        Check.due("main = 1;", x.program(), 1);
        x.run(false, 0);
        Check.due("the first signs stayed", x.number(1), 1);
        Check.text(x, "main");
        x.end(1);
        Check.due("one stays", x.about(3), 1);
        x.end(0);
        Check.due("none stays", x.about(3), 0);
        x.end(0);
        Check.due("none of none", x.about(3), 0);
    }

    private static void endRefused() {
        Forge x = Check.texted("main = 12;");
        for (int n : new int[] {-1, 11, Integer.MIN_VALUE, Integer.MAX_VALUE}) {
            Check.refuses("end " + n + " of 10", IllegalArgumentException.class, () -> end(x, n));
            Check.due("all are there", x.about(3), 10);
        }
        x.program();
        x.run(false, 0);
        Check.due("as they were", x.number(1), 12);
        Check.refuses("one of none", IllegalArgumentException.class, () -> end(x, 1));
        Check.text(x, "main");
        x.end(2);
        Check.refuses("what was there once", IllegalArgumentException.class, () -> end(x, 3));
        Check.due("two", x.about(3), 2);
    }

    private static void endOfFullText() {
        Forge x = longText(3000);
        Check.refuses("3001 of 3000", IllegalArgumentException.class, () -> end(x, 3001));
        x.end(3000);
        Check.due("3000 of 3000", x.about(3), 3000);
        x.end(2999);
        Check.due("2999 of 3000", x.about(3), 2999);
        Check.due("one more fits then", x.put(10), 3000);
        Check.due("OUT stays", x.about(4), 3000);
    }

    private static void takeOut() {
        Forge x = Check.forge("main = 40 + 2;");
        x.write();
        Check.text(x, "something else");
        Check.due("take", x.take(), "main = (40 + 2);\n".length());
        Check.due("the text", x.about(3), 17);
        Check.due("OUT stays", Check.out(x), "main = (40 + 2);\n");
        Check.due("it is a program", x.program(), 1);
        x.run(false, 0);
        Check.due("it runs", x.number(1), 42);
        Check.due("it may be taken again", x.take(), 17);
        Check.due("with nothing twice", x.take(), 17);
        x.end(3);
        Check.due("OUT is not cut with the text", x.about(4), 17);
    }

    private static void takeEmptyOut() {
        Forge x = Check.texted("main = 1;");
        Check.due("OUT is empty", x.take(), 0);
        Check.due("and so is the text", x.about(3), 0);
        Check.due("no program", x.program(), LazyForge.NONE);
        Check.due("without a word", x.fault(1), 0);
    }

    private static void takeTheMost() {
        Forge x = Check.forge(Sums.of(3000).source());
        Check.due("3000 signs", x.write(), 3000);
        Check.due("are taken", x.take(), 3000);
        Check.due("all of them", x.about(3), 3000);
        Check.due("and are a program", x.program(), Sums.FUNCTIONS);
        Check.due("the same one", x.write(), 3000);
    }

    private static void takeOneTooMany() {
        Forge x = Check.forge(Sums.of(3001).source());
        Check.due("3001 signs", x.write(), 3001);
        Check.text(x, "main=5;");
        Check.due("are not taken", x.take(), LazyForge.NONE);
        Check.due("the text stays", x.about(3), 7);
        Check.due("OUT stays", x.about(4), 3001);
        Check.due("the program stays", x.about(0) > 1 ? 1 : 0, 1);
        Check.due("its last sign", x.letter(3000), 10);
        Check.due("the text is read", x.program(), 1);
        x.run(false, 0);
        Check.due("as it was", x.number(1), 5);
        Check.due("not taken into an empty text either", x.take(), LazyForge.NONE);
        Check.due("that stays empty", x.about(3), 0);
    }
}
