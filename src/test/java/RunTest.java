/** Promises 12 to 16: run, result, number, called, about, with Terms 4: to run. */
public final class RunTest {
    // Results: how, why, calls, cells, SUSPENSIONS, PARTS OF CALLS, OBJECTS, UPDATES, at once, numbers.
    public static void main(String[] args) {
        wrongCalls();
        values();
        operations();
        faults();
        cases();
        keeping();
        bindings();
        calls();
        applying();
        sharing();
        eager();
        cutCalls();
        cutCells();
        results();
        oneBehindAnother();
        about();
        Check.close("RunTest");
    }

    private static void wrongCalls() {
        Forge x = Check.forge("main = 1;");
        for (int round = 0; round < 3; round++) {
            int numbers = x.result(9);
            for (int n : new int[] {-1, Integer.MIN_VALUE, Integer.MAX_VALUE}) {
                Check.refuses("result " + n, IllegalArgumentException.class, () -> x.result(n));
                Check.refuses("number " + n, IndexOutOfBoundsException.class, () -> x.number(n));
                Check.refuses("called " + n, IndexOutOfBoundsException.class, () -> x.called(n));
                Check.refuses("about " + n, IllegalArgumentException.class, () -> x.about(n));
            }
            Check.refuses("result 10", IllegalArgumentException.class, () -> x.result(10));
            Check.refuses("the first number that is not there", IndexOutOfBoundsException.class, () -> x.number(numbers));
            Check.refuses("called 1", IndexOutOfBoundsException.class, () -> x.called(1));
            Check.refuses("about 7", IllegalArgumentException.class, () -> x.about(7));
            Check.due("the last result", x.result(9), round == 0 ? 0 : 2);
            Check.due("called 0", x.called(0), 0);
            Check.due("a run", x.run(round == 0, 0), 1);
        }
    }

    private static void row(String text, String want) {
        Forge x = Check.forge(text);
        Check.due("lazy: " + text, x.run(false, 800), 1);
        Check.due("lazy row: " + text, Check.row(x), want);
        Check.due("eager: " + text, x.run(true, 800), 1);
        Check.due("eager row: " + text, Check.row(x), want);
    }

    private static void ends(String text, boolean eager, int how, int why) {
        Forge x = Check.forge(text);
        Check.due("how: " + text, x.run(eager, 800), how);
        Check.due("result 0: " + text, x.result(0), how);
        Check.due("result 1: " + text, x.result(1), why);
    }

    private static void faultOf(String text, int why) {
        ends(text, false, 2, why);
        ends(text, true, 2, why);
    }

    /** All results of a run with 800 calls. */
    private static void all(String text, boolean eager, String want) {
        Forge x = Check.forge(text);
        x.run(eager, 800);
        Check.due((eager ? "eager: " : "lazy: ") + text, Check.results(x), want);
    }

    private static void values() {
        row("main = 42;", "1 42");
        row("main = True;", "2 1");
        row("data A 0 | B 2; main = B A (B 1 (2 + 3));", "2 3 2 2 2 3 1 1 1 5");
        row("main = \\ x . x;", "3");
        row("f a b = a; main = f 1;", "3");
        row("data B 3; f a b = a; main = B f (f 1) main2; main2 = 7;", "2 2 3 3 1 7");
        row("main = k; k = l; l = 3;", "1 3");
    }

    private static void operations() {
        row("main = 7 - 9;", "1 -2");
        row("main = 2147483647 + 1;", "1 -2147483648");
        row("main = 65536 * 65536;", "1 0");
        row("main = (0 - 7) / 2;", "1 -3");
        row("main = (0 - 7) % 2;", "1 -1");
        row("main = 7 / (0 - 2);", "1 -3");
        row("main = 7 % (0 - 2);", "1 1");
        row("main = (0 - 2147483647 - 1) / (0 - 1);", "1 -2147483648");
        row("main = (0 - 2147483647 - 1) % (0 - 1);", "1 0");
        row("main = 3 < 3;", "2 0");
        row("main = 3 <= 3;", "2 1");
        row("main = 3 == 3;", "2 1");
        row("main = 3 == 4;", "2 0");
        row("main = 100 - 10 - 1;", "1 89");
        row("main = 100 / 10 * 2 % 7;", "1 6");
        row("main = (0 - 1) < 0;", "2 1");
        String least = "(0 - 2147483647 - 1)";
        row("main = " + least + " - 1;", "1 2147483647");
        row("main = 2147483647 * 2;", "1 -2");
        row("main = 46341 * 46341;", "1 -2147479015");
        row("main = " + least + " * (0 - 1);", "1 -2147483648");
        row("main = " + least + " + " + least + ";", "1 0");
        row("main = " + least + " / 1;", "1 -2147483648");
        row("main = " + least + " / 2147483647;", "1 -1");
        row("main = " + least + " % 2147483647;", "1 -1");
        row("main = 2147483647 / " + least + ";", "1 0");
        row("main = 2147483647 % " + least + ";", "1 2147483647");
        row("main = 2147483647 / (0 - 1);", "1 -2147483647");
        row("main = 0 / 5;", "1 0");
        row("main = 0 % (0 - 5);", "1 0");
        row("main = (0 - 5) % 5;", "1 0");
        row("main = 1 / 2;", "1 0");
        row("main = (0 - 1) / 2;", "1 0");
        row("main = (0 - 1) % 2;", "1 -1");
        row("main = " + least + " < 2147483647;", "2 1");
        row("main = 2147483647 < " + least + ";", "2 0");
        row("main = 2147483647 <= " + least + ";", "2 0");
        row("main = " + least + " <= " + least + ";", "2 1");
        row("main = " + least + " == " + least + ";", "2 1");
        row("main = " + least + " == 2147483647;", "2 0");
        row("main = 2 < 3;", "2 1");
        row("main = 4 <= 3;", "2 0");
    }

    private static void faults() {
        faultOf("main = 1 / 0;", 2);
        faultOf("main = 1 % 0;", 2);
        faultOf("main = main;", 3);
        faultOf("main = let x = x in x;", 3);
        faultOf("main = let x = y, y = x + 1 in y;", 3);
        faultOf("main = 1 + True;", 4);
        faultOf("main = True == True;", 4);
        faultOf("main = (\\ x . x) + 1;", 4);
        faultOf("main = 3 4;", 4);
        faultOf("main = True 4;", 4);
        faultOf("data C 1; main = (C 1) 2;", 4);
        faultOf("f x = x; main = f 1 2;", 4);
        faultOf("main = fail;", 5);
        faultOf("main = True + fail;", 5);
        faultOf("main = fail + 1 / 0;", 5);
        faultOf("main = True / 0;", 4);
        faultOf("main = True + 1 / 0;", 2);
        faultOf("main = 1 / 0 + fail;", 2);
        faultOf("main = fail + True;", 5);
        faultOf("main = 1 + fail;", 5);
        faultOf("main = 0 / 0;", 2);
        faultOf("main = (0 - 2147483647 - 1) / 0;", 2);
        faultOf("main = (0 - 2147483647 - 1) % 0;", 2);
        faultOf("main = 1 / (3 - 3);", 2);
        faultOf("main = 1 % True;", 4);
        faultOf("main = 1 < True;", 4);
        faultOf("main = False <= 1;", 4);
        faultOf("data C 1; main = C 1 == C 1;", 4);
        faultOf("f a b = a; main = f 1 + 1;", 4);
        faultOf("main = 1 + main;", 3);
        faultOf("main = k; k = l; l = k;", 3);
        faultOf("main = main 1;", 3);
        faultOf("main = case main of {_ -> 1};", 3);
        faultOf("data C 1; main = let x = C y, y = y + 1 in x;", 3);
        faultOf("main = fail 1;", 5);
        faultOf("main = fail (1 / 0);", 5);
        faultOf("main = (1 / 0) fail;", 2);
        faultOf("main = True True;", 4);
        faultOf("main = k 1; k = 5;", 4);
        faultOf("f a = \\ b . a; main = f 1 2 3;", 4);
        Forge x = Check.forge("data B 2; main = B 1 fail;");
        Check.due("a fault behind some numbers", x.run(false, 0), 2);
        Check.due("the row as far as it came", Check.row(x), "2 2 1 1");
    }

    private static void cases() {
        row("main = case 2 of {1 -> 10; 2 -> 20; 2 -> 30; _ -> 40};", "1 20");
        row("main = case 3 of {1 -> 10; _ -> 40; 3 -> 50};", "1 40");
        row("main = case True of {1 -> 10; False -> 20; True -> 30};", "1 30");
        row("data P 2 | Q 2; main = case Q 1 2 of {P a b -> a; Q a b -> b};", "1 2");
        row("main = case (\\ x . x) of {1 -> 1; True -> 2; _ -> 3};", "1 3");
        row("data P 1; main = case P fail of {P a -> 1};", "1 1");
        row("main = case 0 - 1 of {1 -> 1; _ -> 2};", "1 2");
        faultOf("main = case 3 of {2 -> 1};", 1);
        faultOf("main = case 0 of {False -> 1};", 1);
        faultOf("data P 1; main = case P 1 of {True -> 1; 1 -> 2};", 1);
        faultOf("main = case (\\ x . x) of {True -> 1};", 1);
        faultOf("main = case fail of {_ -> 1};", 5);
        faultOf("main = case 1 of {True -> 1};", 1);
        faultOf("main = case True of {1 -> 1; False -> 2};", 1);
        faultOf("data P 1 | Q 1; main = case P 1 of {Q a -> a};", 1);
        faultOf("f a b = a; main = case f 1 of {0 -> 1; False -> 2};", 1);
        row("f a b = a; main = case f 1 of {0 -> 1; _ -> 2};", "1 2");
        row("main = case 2147483647 of {2147483646 -> 1; 2147483647 -> 2};", "1 2");
        row("main = case 0 - 2147483647 - 1 of {2147483647 -> 1; 0 -> 2; _ -> 3};", "1 3");
        row("main = case 8 of {1 -> 1; 2 -> 2; 3 -> 3; 4 -> 4; 5 -> 5; 6 -> 6; 7 -> 7; 8 -> 80};", "1 80");
        row("main = case 5 of {_ -> 1; _ -> 2};", "1 1");
        row("data T 4; main = case T 1 2 3 4 of {T a b c d -> d * 1000 + c * 100 + b * 10 + a};", "1 4321");
        row("data P 2; f p = case p of {P p q -> p * 10 + q}; main = f (P 1 2);", "1 12");
        row("data P 2; f p = case p of {P q p -> case p of {P r s -> q + r + s}}; main = f (P 1 (P 2 3));", "1 6");
    }

    private static void keeping() {
        all("data T 4; main = T 1 True f g; f x = x; g = 2;", false, "1 0 0 7 2 0 1 2 0 9");
        all("data T 4; f a = T a (a + 1) (T a a a a) fail; main = f 5;", false, "2 5 1 14 3 0 2 2 0 16");
        all("data O 1; f a b c = a; main = O (f 1 (O 2));", false, "1 0 0 9 1 1 2 1 0 3");
        all("data O 1; f a = O (f a); g a b = O (a * b + a); main = case f 1 of {O x -> case g 1 2 of {O y -> y}};", false,
            "1 0 2 10 3 0 2 2 0 2");
        all("data O 1; main = O (\\ x . x);", false, "1 0 0 3 1 0 1 1 0 3");
        all("data O 1; f a = O (\\ x . a); main = f 1;", false, "1 0 1 6 1 1 1 1 0 3");
        all("f x = x; main = 3 (f 1) (f 2) (f 3);", false, "2 4 0 4 4 0 0 0 0 0");
        all("data O 1 | P 2; f a = O (let b = a, c = 1 in b + c); main = f 1;", false, "1 0 1 7 3 0 1 3 0 4");
        all("data O 1 | P 2; f a = O (case P a 1 of {P b c -> b + c}); main = f 1;", false, "1 0 1 8 2 0 2 2 0 4");
        all("data O 1 | P 2; f a b = O (case a of {P b c -> b + c; _ -> a}); main = f 1 2;", false, "1 0 1 5 2 0 1 2 0 4");
        row("data O 1; f a b c d e = O (e * 1000 + b * 100 + c * 10 + a); main = f 1 2 3 4 5;", "2 2 1 5231");
        row("data O 1; f a b c = let x = a, y = b + x, z = c - y in O (z * x + y); main = f 2 3 9;", "2 2 1 13");
        row("main = f 1 2 3; g x = x; f a b c = let x = b + c, y = x + a in g (let z = y in z * x) - c;", "1 27");
        row("main = case f 1 2 of {_ -> (f 3 4) 5}; f a b = \\ c . let d = g a, e = g b in e * 100 + d * 10 + g c; g x = x;",
            "1 435");
        row("data T 4; f a b = T b (T a b 1 2) (b - a) a; main = f 7 9;", "2 2 1 9 2 2 1 7 1 9 1 1 1 2 1 2 1 7");
    }

    private static void bindings() {
        all("main = let a = 1, b = True, c = f in a; f x = x;", false, "1 0 0 1 1 0 0 1 0 2");
        all("f x = let y = x in y; main = f 1;", false, "1 0 1 3 2 0 0 2 0 2");
        all("main = let y = g in y; g = 3;", false, "1 0 0 2 2 0 0 2 0 2");
        all("data C 2; main = let x = C 1 y, y = C 2 x in case y of {C a b -> case b of {C c d -> a + c}};", false,
            "1 0 0 7 1 0 2 1 0 2");
        all("data C 2; main = let x = C (C 1 x) y, y = x in case x of {C a b -> case a of {C c d -> c}};", false,
            "1 0 0 9 2 0 2 1 0 2");
        all("f a b = b; main = let x = f y, y = 2 in x 3;", false, "1 0 1 4 1 1 0 1 0 2");
        all("f x y = let z = x + y + x in z; main = f 1 2;", false, "1 0 1 4 2 0 0 2 0 2");
    }

    private static void calls() {
        all("f a b = a; main = f 1 (f 2 3);", false, "1 0 1 2 2 0 0 1 0 2");
        all("f a = a + 1; main = f (f (f 1));", false, "1 0 3 3 3 0 0 3 0 2");
        Forge x = Check.forge("f a = case a of {0 -> g 1; _ -> f (a - 1)}; g a = a; h a = a; main = f 3;");
        x.run(false, 800);
        Check.due("f was called", x.called(0), 4);
        Check.due("g was called", x.called(1), 1);
        Check.due("h was not", x.called(2), 0);
        Check.due("main is not called", x.called(3), 0);
        Check.due("calls", x.result(2), 5);
        x.run(false, 2);
        Check.due("in the latest run", x.called(0), 2);
        Check.program(x, "main = 1;");
        Check.due("no run since", x.called(0), 0);
    }

    private static void applying() {
        row("f a b = a - b; g h = h 1; main = (g (f 10)) + (f 5) 3 + f 1 1;", "1 11");
        row("f a = \\ b . \\ c . a * 100 + b * 10 + c; main = f 1 2 3;", "1 123");
        row("f a b c = a * 100 + b * 10 + c; g = f 4; h = g 5; main = h 6;", "1 456");
        row("f a b c = a * 100 + b * 10 + c; g x = x 1; main = g f 2 3;", "1 123");
        row("i x = x; main = i i i i 5;", "1 5");
        row("f a b c d e = a * 10000 + b * 1000 + c * 100 + d * 10 + e; g x = x 2 3; main = g (f 1) 4 5 + 1;", "1 12346");
        row("f a b c d e = a * 10000 + b * 1000 + c * 100 + d * 10 + e; main = 1 + (((f 1) 2 3) 4) 5 * 2;", "1 24691");
        row("f a b c d e = a * 10000 + b * 1000 + c * 100 + d * 10 + e; g x = x 1 2; main = 7 - g f 3 4 5;", "1 -12338");
        row("f a b c = a * 100 + b * 10 + c; g x y = y; main = g ((f 1) 2) 3 + (case (f 1) 2 of {_ -> 4});", "1 7");
        row("f a b = \\ c d . a * 1000 + b * 100 + c * 10 + d; main = f 1 2 3 4 - (f 4 3) 2 1;", "1 -3087");
        all("f a b c = a; main = (f 1) 2;", false, "1 0 0 8 1 2 0 1 0 1");
        all("f a b c = a; g = f; main = g 7 8;", false, "1 0 0 6 2 1 0 2 0 1");
        all("f a = \\ b . a; main = f 1 2;", false, "1 0 2 4 1 1 0 1 0 2");
        all("f a = f; main = f 1 2 3;", false, "1 0 3 1 1 0 0 1 0 1");
    }

    private static void sharing() {
        all("f a = a + a; main = f (1 + 2);", false, "1 0 1 2 2 0 0 2 0 2");
        all("data P 2; k = 1 + 1; main = P k (k + k);", false, "1 0 0 6 3 0 1 3 0 6");
        row("data C 2; f n = case n of {0 -> 0; _ -> f (n - 1)}; main = let x = f 100 in C x (C x x);", "2 2 1 0 2 2 1 0 1 0");
        Forge x = Check.forge("data C 2; f n = case n of {0 -> 0; _ -> f (n - 1)}; main = let x = f 100 in C x (C x x);");
        x.run(false, 800);
        Check.due("worked out once", x.result(2), 101);
    }

    private static void eager() {
        all("f a b = a; main = f (1 + 1) (2 + 2);", true, "1 0 1 2 2 0 0 1 1 2");
        all("f a b = a; main = f (1 + 1) (2 + 2);", false, "1 0 1 3 3 0 0 2 0 2");
        row("main = let x = 1 + 2 in x * x;", "1 9");
        row("f a = let x = a + 1 in let y = x * 2 in y - x; main = f 10;", "1 11");
        row("f a b c = a * 100 + b * 10 + c; main = f (1 + 1) (f 0 0 3) (2 + 2) + f 1 (0 - 1) 1;", "1 325");
        row("f a b c = case a of {0 -> b; _ -> c}; main = f (1 - 1) (2 + 3) fail;", "1 5");
        all("main = let x = 1 + 1 in x + x;", true, "1 0 0 1 1 0 0 1 1 2");
        all("main = let x = 1 + 1 in x + x;", false, "1 0 0 2 2 0 0 2 0 2");
        all("main = let x = 1 + 1 in 3;", true, "1 0 0 2 2 0 0 1 0 2");
        all("main = let x = 1 + 1, y = 2 in x + y;", true, "1 0 0 2 2 0 0 2 0 2");
        all("f a = a; main = f 1;", true, "1 0 1 1 1 0 0 1 1 2");
        all("f a = a; main = f (f (f 1)) ;", true, "1 0 3 1 1 0 0 1 3 2");
        all("f a = a + 1; g h = h (1 + 1); main = g f;", true, "1 0 2 2 2 0 0 2 1 2");
        all("f a b = b a; i x = x; main = f 1 i 2 3;", true, "2 4 2 1 1 0 0 0 1 0");
        all("f a = fail; main = f (1 / 0);", true, "2 2 0 1 1 0 0 0 1 0");
        all("f a = fail; main = f (1 / 0);", false, "2 5 1 2 2 0 0 0 0 0");
        all("f a b = a + b; main = f fail (1 / 0);", true, "2 5 0 1 1 0 0 0 1 0");
        all("f a b = a + b; main = f 1 (1 / 0);", true, "2 2 0 1 1 0 0 0 2 0");
        all("data O 1; f a = a; g x = O (f (x + 1)); main = g 1;", true, "1 0 2 5 2 0 1 2 1 4");
    }

    private static void cutCalls() {
        Forge x = Check.forge("f n = case n of {0 -> 7; _ -> f (n - 1)}; main = f 5;");
        Check.due("one too few", x.run(false, 5), 3);
        Check.due("CUT 1", x.result(1), 1);
        Check.due("calls", x.result(2), 5);
        Check.due("no row", x.result(9), 0);
        Check.due("enough", x.run(false, 6), 1);
        Check.due("none", x.run(true, 0), 3);
        Check.due("none called", x.result(2), 0);
        Check.due("it began to work an argument out", x.result(8), 1);
        ends("f x = f x; main = f 1;", false, 3, 1);
        ends("f x = 1 + f x; main = f 1;", true, 3, 1);
    }

    private static void cutCells() {
        // Each call makes a T of five cells and two SUSPENSIONS of two or three.
        String text = "data T 4; k a n = case n of {_ -> k (T a a a a) (n + 1)}; main = k 1 1;";
        Forge x = Check.forge(text);
        Check.due("a CUT", x.run(false, 800), 3);
        Check.due("CUT 2", x.result(1), 2);
        Check.due("an OBJECT comes whole or not at all", x.result(3), cellsOf(x));
        Check.due("no cell is left for one more", x.result(3) > 4000 - 5 ? 1 : 0, 1);
        Check.due("not too many", x.result(3) <= 4000 ? 1 : 0, 1);
        Forge y = Check.forge("data P 3; f n = case n of {0 -> 0; _ -> case P n n n of {P a b c -> f (a - 1)}}; main = f 799;");
        Check.due("six cells for each are too many", y.run(false, 800), 3);
        Check.due("they were", y.result(1), 2);
        Check.due("eager there are less", y.run(true, 800), 1);
        Check.due("four for each", y.result(3), 1 + 4 * 799);
        exactlyFull();
    }

    private static int cellsOf(Forge x) {
        // main is a SUSPENSION of one cell; those of n + 1 have one variable.
        return 1 + 2 * (x.result(4) - 1) + 5 * x.result(6);
    }

    /** Five cells for each round, so that 4000 cells are full after main's, some pads' and 799 rounds. */
    private static void exactlyFull() {
        String rounds = "data T 4; k n = case n of {0 -> 7; _ -> case T n n n n of {_ -> k (n - 1)}}; main = k ";
        Forge x = Check.forge(rounds + "799;" + "p1 = 1; p2 = 2; p3 = 3; p4 = 4;");
        Check.due("4000 cells fit", x.run(true, 800), 1);
        Check.due("that many", x.result(3), 4000);
        Forge y = Check.forge(rounds + "799;" + "p1 = 1; p2 = 2; p3 = 3; p4 = 4; p5 = 5;");
        Check.due("4001 do not", y.run(true, 800), 3);
        Check.due("for want of a cell", y.result(1), 2);
        Check.due("the last OBJECT is not there", y.result(3), 3996);
        Check.due("nor counted", y.result(6), 798);
        Check.due("the call that wanted it is", y.result(2), 799);
    }

    private static void results() {
        Forge x = Check.forge("main = 1 + 2;");
        Check.due("no run yet", Check.results(x), "0 0 0 0 0 0 0 0 0 0");
        x.run(false, 0);
        Check.due("a run", Check.results(x), "1 0 0 1 1 0 0 1 0 2");
        x.run(false, 0);
        Check.due("each run begins anew", Check.results(x), "1 0 0 1 1 0 0 1 0 2");
        Check.refuses("a run that throws", IllegalArgumentException.class, () -> x.run(false, 801));
        Check.due("changes nothing", Check.results(x), "1 0 0 1 1 0 0 1 0 2");
        Check.program(x, "main = 1 + 2;");
        Check.due("no run since", Check.results(x), "0 0 0 0 0 0 0 0 0 0");
        Check.refuses("no row since", IndexOutOfBoundsException.class, () -> x.number(0));
        x.run(true, 0);
        Check.due("a run again", Check.results(x), "1 0 0 1 1 0 0 1 0 2");
        Check.program(x, "main = 1 + 2");
        Check.due("no run since a fault", Check.results(x), "0 0 0 0 0 0 0 0 0 0");
        Check.refuses("no row since a fault", IndexOutOfBoundsException.class, () -> x.number(0));
        x.take();
        x.end(0);
        Check.due("without a program the results are there", Check.results(x), "0 0 0 0 0 0 0 0 0 0");
    }

    /** A run has nothing of an earlier one. */
    private static void oneBehindAnother() {
        String text = "data P 2; f n = case n of {0 -> True; _ -> P n (f (n - 1))}; g = f 3; main = g;";
        Forge x = Check.forge(text);
        x.run(false, 800);
        String first = Check.results(x) + " " + Check.row(x) + " " + x.called(0);
        Check.due("a run", first, "1 0 4 23 8 0 3 8 0 14 2 2 1 3 2 2 1 2 2 2 1 1 2 1 4");
        x.run(true, 1);
        Check.due("another", Check.results(x) + " " + x.called(0), "3 1 1 7 3 0 1 2 2 4 1");
        Check.refuses("a shorter row", IndexOutOfBoundsException.class, () -> x.number(4));
        x.run(false, 800);
        Check.due("the first again", Check.results(x) + " " + Check.row(x) + " " + x.called(0), first);
        Check.program(x, "main = 1; f a = a;");
        Check.due("not called since", x.called(1), 0);
        x.run(false, 0);
        Check.due("nothing of another program's", Check.results(x), "1 0 0 1 1 0 0 1 0 2");
    }

    private static void about() {
        Forge x = Check.forge("data A 0; f a = a + 1; main = f (f 1);");
        int[] want = {2, 3, 3 + 5, 0, 0, 0, 0};
        for (int what = 0; what < 7; what++) {
            Check.due("about " + what, x.about(what), want[what]);
        }
        Check.text(x, "xyz");
        x.write();
        x.run(false, 800);
        x.run(true, 1);
        int[] then = {2, 3, 8, 3, x.about(4), 3, 2 + 1};
        for (int what = 0; what < 7; what++) {
            Check.due("then about " + what, x.about(what), then[what]);
        }
        Check.program(x, "oops");
        int[] last = {0, 0, 0, 0, x.about(4), 3, 3};
        for (int what = 0; what < 7; what++) {
            Check.due("last about " + what, x.about(what), last[what]);
        }
    }
}
