/** Promises 5 and 6: program and fault, with Terms 1: words, grammar, names, and the faults of a text. */
public final class ReadTest {
    public static void main(String[] args) {
        programs();
        words();
        wrongWords();
        wrongGrammar();
        openInOneAnother();
        thereAlready();
        noConstructor();
        tooMany();
        tooManyParts();
        leastKindOfOneWord();
        nothingThere();
        tooManyLifted();
        noMain();
        tooHigh();
        faultsAreKept();
        partsReadEver();
        Check.close("ReadTest");
    }

    private static void programs() {
        LazyForge x = new LazyForge();
        Check.due("one function", Check.program(x, "main = 1;"), 1);
        Check.due("the text is empty then", x.about(3), 0);
        Check.due("functions and lifted ones",
            Check.program(x, "f a = \\ b . a; main = let g c = c, h = 1 in f 1 2;"), 4);
        Check.due("no fault: kind", x.fault(0), 0);
        Check.due("no fault: place", x.fault(1), LazyForge.NONE);
        Check.due("parts", x.about(2), 1 + 1 + 1 + 1 + 1 + 1 + 4);
        Check.due("constructors", x.about(1), 2);
        Check.due("data", Check.program(x, "data Nil 0 | Cons 2; data T 4; main = T 1 2 3 4;"), 1);
        Check.due("constructors of data", x.about(1), 5);
        Check.due("parts of an APPLICATION with fields", x.about(2), 5);
        Check.program(x, "main = case (fail) of {True -> 1; 7 -> (2 + 3) * 4; _ -> False};");
        Check.due("parts of a case", x.about(2), 9);
        Check.refuses("fault 2", IllegalArgumentException.class, () -> x.fault(2));
        Check.refuses("fault -1", IllegalArgumentException.class, () -> x.fault(-1));
    }

    private static void words() {
        Check.fault("blanks", " \n main# no = words; here\n=\n1 ;# and here", 0, -1);
        Check.fault("no blanks", "data N0 0|C2 2;main=case C2 1 2of{C2 a b->a+b;N0->3;_->4};", 0, -1);
        Check.fault("eight signs", "abcdefg8 = 1; main = abcdefg8;", 0, -1);
        Check.fault("nine signs", "abcdefg89 = 1; main = 1;", 1, 0);
        Check.fault("nine signs of a parameter", "f abcdefg89 = 1; main = 1;", 1, 2);
        Check.fault("eleven digits of an argument", "main = 1 00000000001;", 1, 9);
        Check.fault("first and last signs", "data Az 0 | Za9 0 | Z0 0; az09 za = Z0; main = az09 9 0;", 0, -1);
        Check.fault("a CONSTRUCTOR of eight", "data Abcdefg8 0; main = Abcdefg8;", 0, -1);
        Check.fault("a CONSTRUCTOR of nine", "data Abcdefg89 0; main = 1;", 1, 5);
        Check.fault("the greatest number", "main = 2147483647;", 0, -1);
        Check.fault("a number too great", "main = 2147483648;", 1, 7);
        Check.fault("ten digits", "main = 0000000001;", 0, -1);
        Check.fault("eleven digits", "main = 00000000001;", 1, 7);
        Check.fault("a digit ends no name", "main = 3main;", 0, -1);
        Check.fault("keywords begin names", "lets = 1; inn = 2; main = lets + inn;", 0, -1);
        Check.fault("no word: >", "main = 1 > 2;", 1, 9);
        Check.fault("no word: capital in a name", "maIn = 1;", 1, 2);
        Check.fault("the longest: ->", "main = 1 ->2;", 1, 9);
        Check.fault("the longest: <=", "main = 1<==2;", 1, 10);
        Check.fault("the longest: ==", "main == 2;", 1, 5);
    }

    private static void wrongWords() {
        Check.fault("no text", "", 1, 0);
        Check.fault("blanks alone", " # main = 1;", 1, 12);
        Check.fault("data alone", "data A 0;", 1, 9);
        Check.fault("no end", "main = 1", 1, 8);
        Check.fault("no end, a blank more", "main = 1 ", 1, 9);
        Check.fault("data behind a function", "main = 1; data A 0;", 1, 10);
        Check.fault("data without a number", "data A; main = 1;", 1, 6);
        Check.fault("four fields", "data A 4; main = 1;", 0, -1);
        Check.fault("five fields", "data A 5; main = 1;", 1, 7);
        Check.fault("data without a CONSTRUCTOR", "data a 1; main = 1;", 1, 5);
        Check.fault("nothing behind |", "data A 1 | ; main = 1;", 1, 11);
        Check.fault("a keyword is no name", "data = 1;", 1, 5);
        Check.fault("a keyword is no parameter", "f of = 1; main = 1;", 1, 2);
    }

    private static void wrongGrammar() {
        Check.fault("two comparisons", "main = 1 < 2 < 3;", 1, 13);
        Check.fault("let is no ATOM", "main = 1 + let x = 1 in x;", 1, 11);
        Check.fault("a case is over", "main = case 1 of {_ -> 1} + 1;", 1, 26);
        Check.fault("a lambda without parameters", "main = \\ . 1;", 1, 9);
        Check.fault("let without in", "main = let x = 1;", 1, 16);
        Check.fault("a case without alternatives", "main = case 1 of {};", 1, 18);
        Check.fault("nothing behind ;", "main = case 1 of {_ -> 1;};", 1, 25);
        Check.fault("a name is no PATTERN", "main = case 1 of {x -> 1};", 1, 18);
        Check.fault("too few fields", "data C 2; main = C 1;", 1, 20);
        Check.fault("too many fields", "data C 1; main = C 1 2;", 1, 21);
        Check.fault("a CONSTRUCTOR with fields is no ATOM", "data C 1; f x = x; main = f C 1;", 1, 28);
        Check.fault("nor a field", "data C 1; main = C C 1;", 1, 19);
        Check.fault("nor one of none", "main = True 1;", 0, -1);
        Check.fault("too few names", "data C 2; main = case 1 of {C a -> 1};", 1, 32);
        Check.fault("too many names", "data C 1; main = case 1 of {C a b -> 1};", 1, 32);
        Check.fault("no )", "main = (1;", 1, 9);
        Check.fault("nothing in ( )", "main = ();", 1, 8);
        Check.fault("nothing behind +", "main = 1 +;", 1, 10);
    }

    private static void openInOneAnother() {
        int[] at = {30, 31};
        for (int n : at) {
            int kind = n > 30 ? 1 : 0;
            Check.fault(n + " (", "main = " + Check.repeat("(", n) + "1" + Check.repeat(")", n) + ";",
                kind, kind == 0 ? -1 : 7 + 30);
            Check.fault(n + " lets", "main = " + Check.repeat("let x=1 in ", n) + "1;", kind, kind == 0 ? -1 : 7 + 330);
            Check.fault(n + " lambdas", "main = " + Check.repeat("\\x.", n) + "1;", kind, kind == 0 ? -1 : 7 + 90);
            Check.fault(n + " cases", "main = " + Check.repeat("case 1 of {_->", n) + "1" + Check.repeat("}", n) + ";",
                kind, kind == 0 ? -1 : 7 + 30 * 14);
        }
        Check.fault("they end", "main = " + Check.repeat("(1)+", 35) + "(1);", 0, -1);
        Check.fault("a let's end", "main = " + Check.repeat("(let x = 1 in x)+", 35) + "(1);", 0, -1);
    }

    private static void thereAlready() {
        Check.fault("a CONSTRUCTOR", "data A 1 | A 1; main = 1;", 2, 11);
        Check.fault("True", "data True 0; main = 1;", 2, 5);
        Check.fault("a function", "main = 1; main = 2;", 2, 10);
        Check.fault("a parameter", "f a b a = 1; main = 1;", 2, 6);
        Check.fault("a lambda's parameter", "main = \\ a a . 1;", 2, 11);
        Check.fault("a BINDING's parameter", "main = let f a a = 1 in 1;", 2, 15);
        Check.fault("a BINDING", "main = let a = 1, a = 2 in 1;", 2, 18);
        Check.fault("a PATTERN's NAME", "data C 2; main = case 1 of {C a a -> 1};", 2, 32);
        Check.fault("shadows are fine", "f a = \\ a . let a = a in case a of {_ -> let f f = f in f}; main = 1;", 0, -1);
    }

    private static void noConstructor() {
        Check.fault("in an E", "main = Nil;", 3, 7);
        Check.fault("in a PATTERN", "main = case 1 of {Nil -> 1};", 3, 18);
        Check.fault("as an argument", "f x = x; main = f Nil;", 3, 18);
        Check.fault("as a field", "data C 1; main = C Nil;", 3, 19);
        Check.fault("ahead of a later fault", "main = Nil Nil (;", 3, 7);
        Check.fault("where no ATOM can stand", "data C 1; main = C 1 Nil;", 1, 21);
    }

    private static void tooMany() {
        StringBuilder constructors = new StringBuilder("data C0 0");
        for (int i = 1; i < 28; i++) {
            constructors.append("|C").append(i).append(" 0");
        }
        Check.fault("30 CONSTRUCTORS", constructors + ";main=1;", 0, -1);
        Check.fault("31 CONSTRUCTORS", constructors + "|D 0;main=1;", 4, constructors.length() + 1);
        Check.fault("the 31st is there already", constructors + "|C3 0;main=1;", 2, constructors.length() + 1);
        StringBuilder functions = new StringBuilder("main=1;");
        for (int i = 1; i < 30; i++) {
            functions.append("g").append(i).append("=1;");
        }
        Check.fault("30 functions", functions.toString(), 0, -1);
        Check.fault("31 functions", functions + "h=1;", 4, functions.length());
        Check.fault("five parameters", "f a b c d e = 1; main = 1;", 0, -1);
        Check.fault("six parameters", "f a b c d e g = 1; main = 1;", 4, 12);
        Check.fault("six that is there already", "f a b c d e a = 1; main = 1;", 2, 12);
        Check.fault("six of a lambda", "main = \\ a b c d e f . 1;", 4, 19);
        Check.fault("six of a BINDING", "main = let f a b c d e g = 1 in 1;", 4, 23);
        Check.fault("five BINDINGS", "main = let a=1,b=1,c=1,d=1,e=1 in 1;", 0, -1);
        Check.fault("six BINDINGS", "main = let a=1,b=1,c=1,d=1,e=1,f=1 in 1;", 4, 31);
        Check.fault("five more ATOMS", "main = 0 1 2 3 4 5;", 0, -1);
        Check.fault("six more ATOMS", "main = 0 1 2 3 4 5 6;", 4, 19);
        Check.fault("eight alternatives", "main = case 1 of {" + Check.repeat("1->1;", 7) + "_->1};", 0, -1);
        Check.fault("nine alternatives", "main = case 1 of {" + Check.repeat("1->1;", 8) + "_->1};", 4, 58);
    }

    /** Functions with so many parts, 41 in one at most; main is still to come. */
    private static String parts(int many) {
        StringBuilder text = new StringBuilder();
        int left = many;
        for (int f = 0; left > 0; f++) {
            int here = Math.min(left, 41) - (Math.min(left, 41) + 1) % 2;
            text.append("g").append(f).append("=1").append(Check.repeat("+1", here / 2)).append(";");
            left -= here;
        }
        return text.toString();
    }

    private static void tooManyParts() {
        String most = parts(597);
        int at = most.length();
        Check.fault("600 parts", most + "main=1+1;", 0, -1);
        LazyForge x = Check.forge(most + "main=1+1;");
        Check.due("600 are told", x.about(2), 600);
        Check.fault("a sign is the 601st", most + "main=1+1+1;", 4, at + 8);
        Check.fault("a NAME", most + "main=1+1;g=g;", 4, at + 11);
        Check.fault("an APPLICATION, at its second ATOM", parts(599) + "main=1 1;", 4, parts(599).length() + 7);
        Check.fault("that ATOM itself", parts(598) + "main=1 1;", 4, parts(598).length() + 7);
        Check.fault("an APPLICATION's (", parts(599) + "main=1 (1);", 4, parts(599).length() + 7);
        Check.fault("what is in ( )", parts(598) + "main=1 (1);", 4, parts(598).length() + 8);
        Check.fault("an APPLICATION with fields", "data C 2;" + parts(600) + "main=C 1 1;", 4, 9 + parts(600).length() + 7);
        Check.fault("its first field", "data C 2;" + parts(599) + "main=C (1) 1;", 4, 9 + parts(599).length() + 8);
        Check.fault("a let", parts(600) + "main=let x=1 in 1;", 4, parts(600).length() + 5);
        Check.fault("a lambda", parts(600) + "main=\\ x . 1;", 4, parts(600).length() + 5);
        Check.fault("a case", parts(600) + "main=case 1 of {_->1};", 4, parts(600).length() + 5);
        Check.fault("a BINDING, at its first PARAMETER", parts(599) + "main=let f x=1 in 1;", 4, parts(599).length() + 11);
        Check.fault("a PATTERN has no parts", parts(597) + "main=case True of {True->1};", 0, -1);
        Check.fault("fail", parts(600) + "main=fail;", 4, parts(600).length() + 5);
        Check.fault("a CONSTRUCTOR", parts(600) + "main=True;", 4, parts(600).length() + 5);
    }

    private static void leastKindOfOneWord() {
        Check.fault("too many, but no CONSTRUCTOR", "main = 0 1 2 3 4 5 Foo;", 3, 19);
        Check.fault("too many, but no ATOM", "data C 1; main = 0 1 2 3 4 5 C;", 1, 29);
        Check.fault("the ninth alternative is none", "main = case 1 of {" + Check.repeat("1->1;", 8) + "x->1};", 1, 58);
        Check.fault("the ninth has no CONSTRUCTOR", "main = case 1 of {" + Check.repeat("1->1;", 8) + "X->1};", 3, 58);
        Check.fault("the 31st open is the sixth ATOM",
            "main = " + Check.repeat("(", 30) + "0 1 2 3 4 5 (6)" + Check.repeat(")", 30) + ";", 1, 49);
    }

    private static void nothingThere() {
        Check.fault("a NAME", "main = x;", 5, 7);
        Check.fault("the first in the text", "main = 1 + b; f = a;", 5, 11);
        Check.fault("behind its scope", "main = (let x = 1 in x) + x;", 5, 26);
        Check.fault("a parameter of another", "f x = 1; main = x;", 5, 16);
        Check.fault("a PATTERN's in another", "data C 1; main = case 1 of {C x -> x; _ -> x};", 5, 43);
        Check.fault("a BINDING's parameter in its let", "main = let f y = y in y;", 5, 22);
        Check.fault("a let's names in all BINDINGS", "main = let a = b, b = a in a;", 0, -1);
        Check.fault("functions are everywhere", "main = g; g = main;", 0, -1);
        Check.fault("kinds 1 to 4 come first", "main = x; f = Foo;", 3, 14);
        Check.fault("ahead of 6, 7 and 8", "f = x;", 5, 4);
    }

    private static void tooManyLifted() {
        String use = "a + b + c + d + e + f + g";
        String eight = "h a b c d e = \\ f g . \\ i . " + use + "; main = 1;";
        Check.fault("eight parameters", eight, 0, -1);
        Check.fault("nine parameters", "h a b c d e = \\ f g . \\ i j . " + use + "; main = 1;", 6, 22);
        Check.fault("of a BINDING", "h a b c d e = \\ f g . let k i j = " + use + " in k; main = 1;", 6, 26);
        Check.fault("the first", "h a b c d e = \\ f g i . \\ j . i + " + use + "; main = 1;", 6, 24);
        Check.fault("the outer one first", "h a b c d e = \\ f . \\ g i j . \\ k l m . k + " + use + "; main = 1;", 6, 20);
        Check.fault("ahead of 7", "h a b c d e = \\ f g . \\ i j . " + use + ";", 6, 22);
    }

    private static void noMain() {
        Check.fault("none", "f = 1;", 7, 0);
        Check.fault("one with parameters", " f = 1; main x = 1;", 7, 0);
        Check.fault("ahead of 8", "f = " + Check.repeat("1+", 40) + "1;", 7, 0);
    }

    private static void tooHigh() {
        Check.fault("40 high", "main = " + Check.repeat("1+", 39) + "1;", 0, -1);
        Check.fault("41 high", "f = 1; main = " + Check.repeat("1+", 40) + "1;", 8, 7);
        Check.fault("41 high in a lambda", "main = let a = \\ x . " + Check.repeat("1+", 40) + "1 in a;", 8, 15);
        Check.fault("41 high in a BINDING", "main = let a x = " + Check.repeat("1+", 40) + "1 in a;", 8, 11);
        Check.fault("a lifted APPLICATION is two high", "main = let k = 1 in (\\ x . k)" + Check.repeat("+1", 38) + ";", 8, 0);
        Check.fault("a function alone is one high", "main = let k = 1 in (\\ x . x)" + Check.repeat("+1", 38) + ";", 0, -1);
        String five = "(let a=1,b=1,c=1,d=1,e=1 in 1)";
        String thirtyFive = Check.repeat(five + "+", 7);
        Check.fault("40 variables", "main = " + thirtyFive + five + ";", 0, -1);
        Check.fault("41 variables", "f = 1; main = " + thirtyFive + five + "+(let f=1 in 1);", 8, 7);
        Check.fault("with parameters", "f x = " + thirtyFive + five + "; main = 1;", 8, 0);
        Check.fault("with PATTERNS", "data C 4; f x = " + thirtyFive + "(case x of {C a b c d -> 1}); main = 1;", 0, -1);
        Check.fault("with PATTERNS and one more", "data C 4; f x y = " + thirtyFive + "(case x of {C a b c d -> 1}); main = 1;", 8, 10);
        Check.fault("with free ones", "main = let x = 1 in \\ y . " + thirtyFive + "(let a=1,b=1,c=1,d=1 in x);", 8, 20);
        Check.fault("lambdas within left out", "main = " + thirtyFive + five + "+(\\ y . let a=1 in 1);", 0, -1);
        Check.fault("the first by numbers", "main = \\ x . " + Check.repeat("1+", 40) + "1; f = " + Check.repeat("1+", 40) + "1;", 8, 96);
    }

    private static void faultsAreKept() {
        LazyForge x = Check.forge("main = 1;");
        x.run(false, 0);
        Check.due("a fault", Check.program(x, "main = 1"), LazyForge.NONE);
        Check.due("the text is empty then", x.about(3), 0);
        Check.due("no functions", x.about(0), 0);
        Check.due("no CONSTRUCTORS", x.about(1), 0);
        Check.due("no parts", x.about(2), 0);
        Check.due("no run", x.result(0), 0);
        Check.refuses("no row", IndexOutOfBoundsException.class, () -> x.number(0));
        Check.refuses("no program", IllegalStateException.class, () -> x.run(false, 1));
        Check.due("the fault stays", x.fault(1), 8);
        Check.program(x, "main = 1;");
        Check.due("no fault any more", x.fault(0), 0);
        Check.due("nor a place", x.fault(1), LazyForge.NONE);
        String[] late = {"main = x;", "h a b c d e = \\ f g i . \\ j . a+b+c+d+e+f+g+i; main = 1;", "f = 1;",
            "main = " + Check.repeat("1+", 40) + "1;"};
        for (int i = 0; i < late.length; i++) {
            Check.due("a late fault", Check.program(x, late[i]), LazyForge.NONE);
            Check.due("its kind", x.fault(0), 5 + i);
            Check.refuses("no program then", IllegalStateException.class, () -> x.write());
            Check.due("none behind it", Check.program(x, "main = \\ x . x;"), 2);
            Check.due("no kind", x.fault(0), 0);
        }
    }

    private static void partsReadEver() {
        LazyForge x = new LazyForge();
        String text = parts(597) + "main=1+1;";
        for (int i = 0; i < 33; i++) {
            x.end(0);
            Check.due("600 parts", Check.program(x, text) == LazyForge.NONE ? 1 : 0, 0);
        }
        // 19800 so far; 199 parts up to a fault leave one to read.
        Check.due("a fault", Check.program(x, parts(199) + ";"), LazyForge.NONE);
        Check.due("19999 were read", Check.program(x, "main=1;"), 1);
        Check.text(x, "main=2;");
        Check.refuses("20000 were read", UnsupportedOperationException.class, () -> x.program());
        Check.due("the text stays", x.about(3), 7);
        Check.due("the program stays", x.about(0), 1);
        Check.due("it runs", x.run(false, 0), 1);
        Check.due("as before", x.number(1), 1);
    }
}
