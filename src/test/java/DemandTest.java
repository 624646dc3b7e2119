/** Promises 9 to 11: function, needs, bit, with Terms 3: what is needed. */
public final class DemandTest {
    public static void main(String[] args) {
        tells();
        tellsEdges();
        refusesFunctions();
        refusesWithoutProgram();
        bitsThatThereAre();
        eachRule();
        applications();
        recursion();
        lets();
        letsThatNeed();
        manyParameters();
        manyWithManyParameters();
        oneBehindAnother();
        Check.close("DemandTest");
    }

    private static void tells() {
        Forge x = Check.forge("data P 2; f a = let k = a + 1 in \\ b . case k of {P c d -> b; _ -> a}; main = f 1 2;");
        int[][] want = {
            {1, 0, 2, 8, 0, 3},
            {0, 0, 0, 4, 0, 2},
            {3, 2, 5, 4, 0, 2},
        };
        for (int f = 0; f < 3; f++) {
            for (int what = 0; what < 6; what++) {
                Check.due("function(" + f + ", " + what + ")", x.function(f, what), want[f][what]);
            }
        }
    }

    private static void tell(String what, String text, int f, String want) {
        Forge x = Check.forge(text);
        StringBuilder got = new StringBuilder();
        for (int i = 0; i < 6; i++) {
            got.append(i == 0 ? "" : " ").append(x.function(f, i));
        }
        Check.due(what, got.toString(), want);
    }

    /** Parameters, free ones of these, variables, parts, lets that need their name, height: least and most. */
    private static void tellsEdges() {
        tell("the least", "main = 1;", 0, "0 0 0 1 0 1");
        tell("five parameters", "f a b c d e = a; main = 1;", 0, "5 0 5 1 0 1");
        tell("a lambda with nothing free", "main = \\ x . x;", 1, "1 0 1 1 0 1");
        tell("where it stood", "main = \\ x . x;", 0, "0 0 0 1 0 1");
        tell("seven free", "h a b c d e = \\ f g . \\ i . a b c d e f + g; main = 1;", 3, "8 7 8 9 0 3");
        tell("where it stood with seven free", "h a b c d e = \\ f g . \\ i . a b c d e f + g; main = 1;", 2, "7 5 7 9 0 2");
        tell("a BINDING's own name is free", "main = let f x = f x in f;", 1, "2 1 2 3 0 2");
        tell("where that stood", "main = let f x = f x in f;", 0, "0 0 1 5 0 3");
        tell("a BINDING with nothing free", "main = let f x = x in f 1;", 0, "0 0 1 5 1 3");
        tell("40 high", "main = " + "1+".repeat(39) + "1;", 0, "0 0 0 79 0 40");
        tell("40 variables", "f a b c d e = " + "(let a=1,b=1,c=1,d=1,e=1 in 1)+".repeat(7) + "1; main = 1;", 0,
            "5 0 40 57 0 9");
        tell("a PATTERN's NAMES are variables", "data T 4; main = case 1 of {T a b c d -> a; True -> 2; _ -> 3};", 0, "0 0 4 5 0 2");
        tell("lambdas' are not", "main = let x = 1 in \\ y . let z = y in z;", 0, "0 0 1 3 0 2");
        tell("30 lets, of which the last needs its name", "main = " + "let x=1 in ".repeat(30) + "x;", 0, "0 0 30 61 1 31");
        tell("30 lets that use their names", "f a = " + "let a=a+1 in ".repeat(30) + "a; main = 1;", 0, "1 0 31 121 0 32");
    }

    private static void refusesFunctions() {
        Forge x = Check.forge("f a b = a; main = f 1 2;");
        for (int f : new int[] {-1, 2, Integer.MIN_VALUE, Integer.MAX_VALUE}) {
            Check.refuses("function " + f, IndexOutOfBoundsException.class, () -> x.function(f, 0));
            Check.refuses("function ahead of what, " + f, IndexOutOfBoundsException.class, () -> x.function(f, 6));
            Check.refuses("needs of function " + f, IndexOutOfBoundsException.class, () -> x.needs(f, 0) ? 1 : 0);
            Check.refuses("bits of function " + f, IndexOutOfBoundsException.class, () -> x.bit(f, 0));
            Check.refuses("function ahead of bits, " + f, IndexOutOfBoundsException.class, () -> x.bit(f, -1));
            Check.refuses("calls of function " + f, IndexOutOfBoundsException.class, () -> x.called(f));
        }
        for (int what : new int[] {-1, 6, Integer.MIN_VALUE, Integer.MAX_VALUE}) {
            Check.refuses("what " + what, IllegalArgumentException.class, () -> x.function(0, what));
            Check.refuses("what of the last one " + what, IllegalArgumentException.class, () -> x.function(1, what));
        }
        for (int i : new int[] {-1, 2, 31, 32, Integer.MIN_VALUE, Integer.MAX_VALUE}) {
            Check.refuses("needs " + i, IndexOutOfBoundsException.class, () -> x.needs(0, i) ? 1 : 0);
        }
        Check.due("the last parameter", x.needs(0, 1) ? 1 : 0, 0);
        for (int i = -1; i <= 1; i++) {
            int none = i;
            Check.refuses("main has no parameter " + i, IndexOutOfBoundsException.class, () -> x.needs(1, none) ? 1 : 0);
        }
    }

    private static void refusesWithoutProgram() {
        Forge x = new Forge();
        for (String text : new String[] {"", "main", "main = x;", "f = 1;"}) {
            for (int f = -1; f <= 1; f++) {
                int any = f;
                Check.refuses("function", IllegalStateException.class, () -> x.function(any, any));
                Check.refuses("needs", IllegalStateException.class, () -> x.needs(any, any) ? 1 : 0);
                Check.refuses("bit", IllegalStateException.class, () -> x.bit(any, any));
                Check.refuses("called", IllegalStateException.class, () -> x.called(any));
            }
            Check.program(x, "main = 1;");
            Check.due("with a program", x.function(0, 3), 1);
            Check.program(x, text);
        }
    }

    /** Of functions with none to eight parameters the last bits that there are, and the first that there are not. */
    private static void bitsThatThereAre() {
        String[] texts = {
            "g = 1;", "g a = a;", "g a b = a + b;", "g a b c = a b c + c;", "g a b c d = a + b + c + d;", "g a b c d e = a + b + c + d + e;",
        };
        for (int n = 0; n <= 8; n++) {
            String more = "g a b c d e = \\ " + "p q r".substring(0, Math.max(1, 2 * (n - 5) - 1)) + " . a + b + c + d + e"
                + " + p + q + r".substring(0, Math.max(0, 4 * (n - 5))) + ";";
            Forge x = Check.forge("main = 1;" + (n <= 5 ? texts[n] : more));
            int f = n <= 5 ? 1 : 2;
            Check.due(n + " parameters", x.function(f, 0), n);
            Check.due("all bits of " + n, x.bit(f, (1 << n) - 1), 1);
            Check.due("no bits of " + n, x.bit(f, 0), n == 0 ? 1 : 0);
            for (int bits : new int[] {-1, 1 << n, (1 << n) + 1, 1 << 30, Integer.MIN_VALUE, Integer.MAX_VALUE}) {
                Check.refuses("bits " + bits + " of " + n, IllegalArgumentException.class, () -> x.bit(f, bits));
            }
            for (int i = 0; i < n; i++) {
                Check.due("needs " + i + " of " + n, x.needs(f, i) ? 1 : 0, n == 3 && i == 1 ? 0 : 1);
            }
            Check.refuses("needs " + n + " of " + n, IndexOutOfBoundsException.class, () -> x.needs(f, x.function(f, 0)) ? 1 : 0);
        }
    }

    /** What F of function 0 gives for all its bits, the lowest first. */
    private static void bits(String text, String want) {
        Forge x = Check.forge(text);
        StringBuilder got = new StringBuilder();
        int parameters = x.function(0, 0);
        for (int bits = 0; bits < 1 << parameters; bits++) {
            got.append(x.bit(0, bits));
        }
        Check.due("F of " + text, got.toString(), want);
        int ones = (1 << parameters) - 1;
        for (int i = 0; i < parameters; i++) {
            Check.due("needs " + i + " of " + text, x.needs(0, i) ? 1 : 0, 1 - x.bit(0, ones & ~(1 << i)));
        }
    }

    private static void eachRule() {
        bits("f a = a; main = 1;", "01");
        bits("f a = 1; main = 1;", "11");
        bits("f a = f; main = 1;", "11");
        bits("f a = True; main = 1;", "11");
        bits("data C 1; f a = C a; main = 1;", "11");
        bits("f a = fail; main = 1;", "00");
        bits("f a b = a + b; main = 1;", "0001");
        bits("f a b = a == 1; main = 1;", "0101");
        bits("f a b c = case a of {1 -> b; _ -> c}; main = 1;", "00010101");
        bits("f a b = case a of {1 -> b}; main = 1;", "0001");
        bits("f a b = case a of {1 -> fail; _ -> b}; main = 1;", "0001");
        bits("data C 2; f a b = case a of {C x y -> x + b}; main = 1;", "0001");
        bits("f a = g; g = 1; main = 1;", "11");
        bits("f a = g; g = fail; main = 1;", "00");
        bits("f a = g; g = g; main = 1;", "00");
        bits("f a = case a of {1 -> fail; _ -> fail}; main = 1;", "00");
        bits("f a = case fail of {1 -> 1; _ -> a}; main = 1;", "00");
        bits("f a = case 1 of {1 -> fail; 2 -> fail; 3 -> fail; 4 -> fail; 5 -> fail; 6 -> fail; 7 -> fail; 8 -> a}; main = 1;",
            "01");
        bits("f a b = a + fail; main = 1;", "0000");
        bits("f a b = a < b; main = 1;", "0001");
        bits("f a b = a <= b; main = 1;", "0001");
        bits("f a b = a - b * a / b % 2; main = 1;", "0001");
        bits("data T 4; f a = T a a a a; main = 1;", "11");
        bits("data T 4; f a = case a of {T p q r s -> p + q + r + s}; main = 1;", "01");
        bits("f a = main; main = 1;", "11");
    }

    private static void applications() {
        bits("f a b = g a b; g x y = y; main = 1;", "0011");
        bits("f a b = g b a; g x y = y; main = 1;", "0101");
        bits("f a b = g a; g x y = y; main = 1;", "1111");
        bits("f a b = g a b; g x = x; main = 1;", "0101");
        bits("f a b = g 1 1 1 1 b; g p q r s t = t; main = 1;", "0011");
        bits("f a b = g 1 1 1 1; g p q r s t = fail; main = 1;", "1111");
        bits("f a b = g 1 1 1 1 a; g p q r s t = fail; main = 1;", "0000");
        bits("f a b = g fail b; g x = 1; main = 1;", "1111");
        bits("f a b = g a; g = fail; main = 1;", "0000");
        bits("f a b = g; g x = fail; main = 1;", "1111");
        bits("f a b = a b; main = 1;", "0101");
        bits("f a b = g a b; g = \\ x . x; main = 1;", "1111");
        bits("f a b = g a b; g = fail; main = 1;", "0000");
        bits("f a b = (g a) b; g x y = y; main = 1;", "1111");
        bits("f a = 3 a; main = 1;", "11");
        bits("f a = True a; main = 1;", "11");
        bits("f a = fail a; main = 1;", "00");
        bits("f a b = (\\ x . x) a; main = 1;", "0101");
        bits("f a b = (\\ x . x + a) b; main = 1;", "1111");
        bits("f a b = g (a + b) fail; g x y = x; main = 1;", "0001");
        bits("f a b = k (k 1 (k b 1)) (k (k 2 3) (k 4 a)); k x y = x + y; main = 1;", "0001");
        manyApplications();
    }

    private static void manyApplications() {
        StringBuilder text = new StringBuilder("f a b = g1 a b; k x y z = y; main = 1;");
        for (int g = 1; g <= 20; g++) {
            text.append("g").append(g).append(" a b=k 1 (k 2 (k 3 (");
            text.append(g == 20 ? "k b a b" : "g" + (g + 1) + " b a").append(") 4) 5) 6;");
        }
        bits(text.toString(), "0011");
    }

    private static void recursion() {
        bits("f n a = case n < 1 of {True -> a; False -> f (n - 1) (a * n)}; main = 1;", "0001");
        bits("f n a = case n < 1 of {True -> a; False -> f (n - 1) 7}; main = 1;", "0101");
        bits("f n a b = case n < 1 of {True -> a; False -> f (n - 1) b a}; main = 1;", "00010101");
        bits("f n a b = case n of {0 -> a; 1 -> b; _ -> f n b a}; main = 1;", "00010101");
        bits("f a = f a; main = 1;", "00");
        bits("f a b = case a of {0 -> b; _ -> g a b}; g a b = f b a; main = 1;", "0001");
        bits("data N 0 | C 2; f g l = case l of {N -> N; C a b -> C (g a) (f g b)}; main = 1;", "0011");
    }

    private static void lets() {
        bits("f a b = let x = a in x + b; main = 1;", "0001");
        bits("f a b = let x = a in b; main = 1;", "0011");
        bits("f a b = let x = y, y = a in x; main = 1;", "0101");
        bits("f a b = let x = x in b; main = 1;", "0011");
        bits("f a b = let x = x in x; main = 1;", "0000");
        bits("f a b = let x = y, y = z, z = u, u = v, v = a in x + b; main = 1;", "0001");
        bits("f a b = let x = let y = a in y + b in x; main = 1;", "0001");
        bits("f a b = let x = case a of {0 -> x; _ -> b} in x; main = 1;", "0001");
        bits("f a b = let g x = a + x in g b; main = 1;", "1111");
        bits("f a b = let v = a, u = v, z = u, y = z, x = y in x + b; main = 1;", "0001");
        bits("f a b = let x = case 1 of {0 -> a; _ -> y}, y = b in x; main = 1;", "0111");
        bits("f a b = let x = case 1 of {0 -> 1; _ -> y}, y = x + b, z = y + a in z; main = 1;", "0001");
        bits("f a b = let x = y, y = x in b; main = 1;", "0011");
        bits("f a b = let x = y, y = x in x; main = 1;", "0000");
        bits("f a b = let x = case y of {0 -> a; _ -> x}, y = case b of {0 -> x; _ -> 1} in x; main = 1;", "0001");
        bits("f a b = let x = g y, y = g x in x + b; g z = 1; main = 1;", "0011");
    }

    private static void need(String what, String text, int want) {
        Check.due(what, Check.forge(text).function(0, 4), want);
    }

    private static void letsThatNeed() {
        need("used in its E", "main = let x = 1 + 2 in x + 1;", 1);
        need("not used", "main = let x = 1 + 2 in 1;", 0);
        need("in one alternative", "f a = let x = a in case a of {0 -> x; _ -> 1}; main = 1;", 0);
        need("in all alternatives", "f a = let x = a in case a of {0 -> x; _ -> x + 1}; main = 1;", 1);
        need("two BINDINGS", "main = let x = 1, y = 2 in x + y;", 0);
        need("its E uses its name", "main = let x = x + 1 in x;", 0);
        need("its E has that name within", "main = let x = (let x = 1 in x) in x;", 2);
        need("fail needs all", "main = let x = 1 in fail;", 1);
        need("through a let within", "main = let x = 1 in let y = x in y + 1;", 2);
        need("through a let of two within", "main = let x = 1 in let y = z, z = x in y;", 1);
        need("through a function", "main = let x = 1 in g x; g y = y + 1;", 1);
        need("a name around counts 1", "f a = let x = fail in let y = 1 in x; main = 1;", 1);
        need("of lets in one another each by itself", "f a = let x = a in (let y = a in x) + (let z = a in 3); main = 1;", 1);
        need("a function that needs it not", "main = let x = 1 in g x; g y = 1;", 0);
        need("a part of a call", "main = let x = 1 in g x; g y z = y;", 0);
        need("a field", "data O 1; main = let x = 1 in O x;", 0);
        need("applied", "main = let x = 1 in x 2;", 1);
        need("an argument of it", "main = let x = 1 in 2 x;", 0);
        need("its E uses it in a lambda", "main = let x = \\ y . x in x 1;", 0);
        need("its E uses it in a let within", "main = let x = (let y = x in 1) in x;", 0);
        need("a BINDING with parameters", "main = let g y = y in g 1;", 1);
        need("a BINDING with parameters that calls itself", "main = let g y = g y in g 1;", 0);
        need("two BINDINGS, one not used", "main = let x = 1, y = 2 in x;", 0);
        need("a PATTERN's NAME with its name", "data O 1; f a = let x = a in case a of {O x -> x}; main = 1;", 0);
        need("a name around that has its name", "f x = let x = 1 in x; main = 1;", 1);
        need("no E but its own is 0", "f a = let x = a in case a of {_ -> fail; 1 -> x}; main = 1;", 1);
        need("a lambda's are its own", "main = \\ a . let x = a in x;", 0);
        Check.due("they are the lifted function's",
            Check.forge("main = \\ a . let x = a in x;").function(1, 4), 1);
    }

    private static void manyParameters() {
        Forge x = Check.forge("f a b c d e = \\ g h i . case a + h of {0 -> b + c + d; _ -> e + g + i}; main = 1;");
        // Lifted: a is 0, b 1, c 2, d 3, e 4, and g 5, h 6, i 7.
        Check.due("eight parameters", x.function(2, 0), 8);
        Check.due("five free ones", x.function(2, 1), 5);
        Check.refuses("bits 256", IllegalArgumentException.class, () -> x.bit(2, 256));
        int asked = 1 << 0 | 1 << 6;
        int one = 1 << 1 | 1 << 2 | 1 << 3;
        int other = 1 << 4 | 1 << 5 | 1 << 7;
        int wrong = 0;
        for (int bits = 0; bits < 256; bits++) {
            boolean want = (bits & asked) == asked && ((bits & one) == one || (bits & other) == other);
            wrong += x.bit(2, bits) == (want ? 1 : 0) ? 0 : 1;
        }
        Check.due("wrong bits", wrong, 0);
        for (int i = 0; i < 8; i++) {
            Check.due("needs " + i, x.needs(2, i) ? 1 : 0, i == 0 || i == 6 ? 1 : 0);
        }
    }

    /** Functions of eight parameters one behind another, each with bits of its own, and one that applies another. */
    private static void manyWithManyParameters() {
        Forge x = Check.forge("h a b c d e = (\\ f g i . f) + (\\ f g i . a b + c + d + e + i) + (\\ f g i . g + k a b c d e)"
            + " + (\\ f g i . case f of {0 -> i; _ -> a + b c d e}); k a b c d e = c + d; main = 1;");
        int[] parameters = {3, 8, 8, 8};
        int[][] always = {{0}, {0, 2, 3, 4, 7}, {2, 3, 6}, {5}};
        for (int f = 0; f < 4; f++) {
            Check.due("parameters of " + f, x.function(3 + f, 0), parameters[f]);
        }
        int wrong = 0;
        for (int bits = 0; bits < 128; bits++) {
            int both = 255 - bits;
            wrong += x.bit(4, both) == (has(both, always[1]) ? 1 : 0) ? 0 : 1;
            wrong += x.bit(5, both) == (has(both, always[2]) ? 1 : 0) ? 0 : 1;
        }
        Check.due("wrong bits", wrong, 0);
        Check.due("the one behind", x.bit(6, 255), 1);
        Check.due("without what is asked", x.bit(6, 255 - 32), 0);
        Check.due("without one side", x.bit(6, 255 - 128), 1);
        Check.due("without the other side", x.bit(6, 255 - 1), 1);
        Check.due("without both sides", x.bit(6, 255 - 128 - 1), 0);
        Check.due("all bits of 64 alone", x.bit(5, 63), 0);
        for (int i = 0; i < 8; i++) {
            Check.due("needs " + i + " of the second", x.needs(4, i) ? 1 : 0, has(1 << i, always[1], 1));
            Check.due("needs " + i + " of the third", x.needs(5, i) ? 1 : 0, has(1 << i, always[2], 1));
        }
    }

    private static boolean has(int bits, int[] places) {
        for (int place : places) {
            if ((bits >> place & 1) == 0) {
                return false;
            }
        }
        return true;
    }

    /** Whether so many of the places, at least, are among the bits: 1 or 0. */
    private static int has(int bits, int[] places, int many) {
        int found = 0;
        for (int place : places) {
            found += bits >> place & 1;
        }
        return found >= many ? 1 : 0;
    }

    /** Nothing of an earlier program is left. */
    private static void oneBehindAnother() {
        Forge x = Check.forge("main = 1; f a b = 1; g a = let x = a in x;");
        Check.due("bits", x.bit(1, 0), 1);
        Check.due("lets", x.function(2, 4), 1);
        Check.program(x, "main = 1; f a b = f b a;");
        Check.due("the least bits", x.bit(1, 3), 0);
        Check.due("needed", x.needs(1, 1) ? 1 : 0, 1);
        Check.refuses("no function 2 any more", IndexOutOfBoundsException.class, () -> x.needs(2, 0) ? 1 : 0);
        Check.refuses("nor its bits", IndexOutOfBoundsException.class, () -> x.bit(2, 0));
        Check.refuses("nor its lets", IndexOutOfBoundsException.class, () -> x.function(2, 4));
        Check.program(x, "f a b = 1; main = 1;");
        Check.due("bits of the first", x.bit(0, 0), 1);
        Check.program(x, "f a b = f b a; main = 1;");
        Check.due("its least bits", x.bit(0, 3), 0);
        Check.program(x, "main = 1; f a b = 1; g a = let x = a in 1;");
        Check.due("no lets", x.function(2, 4), 0);
        Check.due("bits again", x.bit(1, 0), 1);
    }
}
