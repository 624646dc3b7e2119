/** Promises 5 and 6: program and fault, with Terms 1: words, grammar, what is open, parts, and faults of kind 1. */
public final class ReadTest {
    public static void main(String[] args) {
        programs();
        countedParts();
        blanks();
        names();
        constructors();
        numbers();
        keywords();
        longestWords();
        noWords();
        data();
        functions();
        expressions();
        lets();
        lambdas();
        cases();
        comparisonsAndSums();
        applications();
        endOfText();
        openInOneAnother();
        openMixed();
        openEnds();
        faultsAreKept();
        faultWhat();
        Check.close("ReadTest");
    }

    private static void programs() {
        Forge x = new Forge();
        Check.due("one function", Check.program(x, "main = 1;"), 1);
        Check.due("the text is empty then", x.about(3), 0);
        Check.due("functions and lifted ones",
            Check.program(x, "f a = \\ b . a; main = let g c = c, h = 1 in f 1 2;"), 4);
        Check.due("no fault: kind", x.fault(0), 0);
        Check.due("no fault: place", x.fault(1), LazyForge.NONE);
        Check.due("CONSTRUCTORS", x.about(1), 2);
        Check.due("data", Check.program(x, "data Nil 0 | Cons 2; data T 4; main = T 1 2 3 4;"), 1);
        Check.due("CONSTRUCTORS of data", x.about(1), 5);
        Check.due("no text", x.program(), LazyForge.NONE);
        Check.due("no program then", x.about(0), 0);
        manyFunctions();
    }

    /** 600 parts, 570 of them lambdas: as many functions as there can be. */
    private static void manyFunctions() {
        StringBuilder text = new StringBuilder("main=").append("\\x.".repeat(19)).append("1;");
        for (char f = 'a'; f < 'a' + 26; f++) {
            text.append(f).append("=").append("\\x.".repeat(19)).append("1;");
        }
        for (int i = 0; i < 3; i++) {
            text.append("a").append(i).append("=").append("\\x.".repeat(19)).append("1;");
        }
        Forge x = new Forge();
        Check.due("600 functions", Check.program(x, text.toString()), 600);
        Check.due("are told", x.about(0), 600);
        Check.due("600 parts", x.about(2), 600);
        Check.due("the last one's parameters", x.function(599, 0), 1);
        Check.refuses("function 600", IndexOutOfBoundsException.class, () -> x.function(600, 0));
        Check.due("the last one's calls", x.called(599), 0);
        Check.due("a run", x.run(true, 800), 1);
        Check.due("is a function", x.number(0), 3);
    }

    private static void parts(String e, int want) {
        String data = "data N 0 | O 1 | P 2 | T 4; f a b = ";
        Check.due("parts of " + e, Check.forge(data + e + "; main = 1;").about(2), want + 1);
    }

    private static void countedParts() {
        parts("a", 1);
        parts("f", 1);
        parts("N", 1);
        parts("17", 1);
        parts("fail", 1);
        parts("((((a))))", 1);
        parts("a + b", 3);
        parts("a == b", 3);
        parts("a * b - a / b % 2", 9);
        parts("a b", 3);
        parts("a b a b a b", 7);
        parts("(a) (b)", 3);
        parts("(a b) a", 5);
        parts("O a", 2);
        parts("T 1 2 3 4", 5);
        parts("N a", 3);
        parts("\\ x . a", 2);
        parts("\\ x y z u v . a", 2);
        parts("let x = a in b", 3);
        parts("let x = a, y = a, z = b in b", 5);
        parts("let g x = a in b", 4);
        parts("let g x y z u v = a in b", 4);
        parts("let g x = a, h y = b in 1", 6);
        parts("let g = \\ x . a in b", 4);
        parts("case a of {_ -> b}", 3);
        parts("case a of {N -> 1; 5 -> 2; P x y -> x; _ -> b}", 6);
        parts("case a of {T x y z u -> T x y z u}", 7);
    }

    private static void blanks() {
        Check.fine("blanks and line ends", " \n\n main \n =\n\n1 \n;\n ");
        Check.fine("no blanks", "data N0 0|C2 2;main=case C2 1 2of{C2 a b->a+b;N0->3;_->4};");
        Check.fine("behind #", " \n main# no = words; here\n=\n1 ;# and here");
        Check.fine("# twice in a line", "main # one # two\n = 1;");
        Check.fine("# alone", "#\nmain = 1;#");
        Check.fine("# up to the text's end", "main = 1; # f =");
        Check.fine("no word behind #", "# ! \" $ & ' : > ? [ ] ^ ` ~\nmain = 1;");
        Check.fine("a word up to #", "main#\n=1#\n;");
        Check.marked("what is behind # is no word", "main = 1 # ;\n@", 1);
        Check.marked("a line's end ends it", "main = 1; #\n@;", 1);
        Check.marked("a line's end ends a word", "ma\n@(in = 1;", 1);
        Check.fault("a # ends a word", "ma#\n)in = 1;", 1, 4);
        Check.marked("blanks alone", "   \n @", 1);
        Check.marked("# alone is no program", "# main = 1;@", 1);
    }

    private static void names() {
        Check.fine("one sign", "a = 1; main = a;");
        Check.fine("eight signs", "abcdefg8 = 1; main = abcdefg8;");
        Check.fine("eight signs everywhere",
            "data C 1; f abcdefgh = \\ bcdefghi . let cdefghij defghijk = 1 in case 1 of {C efghijkl -> efghijkl}; main = 1;");
        Check.fine("a letter and seven digits", "a1234567 = 1; main = a1234567;");
        Check.fine("all letters and digits", "abcdefgh = 1; ijklmnop = 1; qrstuvwx = 1; yz012345 = 1; a6789 = 1; main = 1;");
        Check.fine("names that differ in the last sign", "abcdefg1 = 1; abcdefg2 = 2; main = 1;");
        Check.marked("nine signs of a function", "@abcdefg89 = 1; main = 1;", 1);
        Check.marked("nine signs of a parameter", "f @abcdefg89 = 1; main = 1;", 1);
        Check.marked("nine signs of a lambda's", "main = \\ @abcdefg89 . 1;", 1);
        Check.marked("nine signs of a BINDING", "main = let @abcdefg89 = 1 in 1;", 1);
        Check.marked("nine signs of a BINDING's parameter", "main = let f @abcdefg89 = 1 in 1;", 1);
        Check.marked("nine signs of a PATTERN's", "data C 1; main = case 1 of {C @abcdefg89 -> 1};", 1);
        Check.marked("nine signs in an E", "abcdefg8 = 1; main = @abcdefg89;", 1);
        Check.marked("nine signs of an argument", "abcdefg8 = 1; main = 1 @abcdefg89;", 1);
        Check.marked("many signs", "main = @" + "a".repeat(300) + ";", 1);
        Check.marked("a digit first", "@1a = 1; main = 1;", 1);
        Check.marked("a capital letter within", "ma@In = 1;", 1);
        Check.marked("a _ within", "ma@_in = 1;", 1);
    }

    private static void constructors() {
        Check.fine("one sign", "data A 0 | Z 0; main = A;");
        Check.fine("eight signs", "data Abcdefg8 0; main = Abcdefg8;");
        Check.fine("all digits", "data Z0123456 0 | Z789 0; main = Z789;");
        Check.fine("like a keyword", "data Data 0 | Let 0 | Fail 0; main = Data;");
        Check.marked("nine signs", "data @Abcdefg89 0; main = 1;", 1);
        Check.marked("nine signs in an E", "data Abcdefg8 0; main = @Abcdefg89;", 1);
        Check.marked("nine signs of an argument", "data Abcdefg8 0; main = 1 @Abcdefg89;", 1);
        Check.marked("nine signs in a PATTERN", "data Abcdefg8 0; main = case 1 of {@Abcdefg89 -> 1};", 1);
        Check.marked("two capitals are two words", "data A@B 0; main = 1;", 1);
    }

    private static void numbers() {
        Check.fine("0", "main = 0;");
        Check.fine("the greatest", "main = 2147483647;");
        Check.marked("one greater", "main = @2147483648;", 1);
        Check.marked("2 to the 32nd", "main = @4294967296;", 1);
        Check.marked("that and one more", "main = @4294967297;", 1);
        Check.marked("ten nines", "main = @9999999999;", 1);
        Check.fine("ten digits", "main = 0000000001;");
        Check.marked("eleven digits", "main = @00000000001;", 1);
        Check.marked("eleven digits of an argument", "main = 1 @00000000001;", 1);
        Check.marked("many digits", "main = @" + "0".repeat(200) + ";", 1);
        Check.marked("2 to the 64th and one more", "main = @18446744073709551617;", 1);
        Check.fine("the greatest of a PATTERN", "main = case 1 of {2147483647 -> 1};");
        Check.marked("one greater of a PATTERN", "main = case 1 of {@2147483648 -> 1};", 1);
        Check.marked("eleven digits of a PATTERN", "main = case 1 of {@00000000001 -> 1};", 1);
        Check.fine("a digit ends no name", "main = 3main;");
        Check.fine("a name ends a number", "f a = 2a; main = 1;");
    }

    private static void keywords() {
        for (String word : new String[] {"data", "let", "in", "case", "of", "fail"}) {
            if (!word.equals("data")) {
                Check.marked(word + " is no function", "@" + word + " = 1; main = 1;", 1);
            }
            Check.marked(word + " is no second function", "main = 1; @" + word + " = 1;", 1);
            Check.marked(word + " is no parameter", "f @" + word + " = 1; main = 1;", 1);
            Check.marked(word + " is no second parameter", "f a @" + word + " = 1; main = 1;", 1);
            Check.marked(word + " is no lambda's", "main = \\ @" + word + " . 1;", 1);
            Check.marked(word + " is no BINDING", "main = let @" + word + " = 1 in 1;", 1);
            Check.marked(word + " is no PATTERN's", "data C 1; main = case 1 of {C @" + word + " -> 1};", 1);
            Check.marked(word + " is no PATTERN", "main = case 1 of {@" + word + " -> 1};", 1);
            if (!word.equals("fail")) {
                Check.marked(word + " is no ATOM", "main = 1 + @" + word + ";", 1);
                Check.marked(word + " is no argument", "main = 1 @" + word + ";", 1);
            }
            Check.fine(word + " begins a name", word + "s = 1; " + word + "1 = 2; main = " + word + "s + " + word + "1;");
            Check.fine(word + " ends a name", "a" + word + " = 1; main = a" + word + ";");
        }
        Check.marked("data is no function", "data @= 1;", 1);
        Check.fine("fail is an argument", "main = 1 fail;");
        Check.fine("main is no keyword", "f main = main; main = let main = 1 in main;");
    }

    private static void longestWords() {
        Check.marked("->", "main = 1@->2;", 1);
        Check.marked("- and >", "main = 1 - @> 2;", 1);
        Check.fine("- and a number", "main = 1-2;");
        Check.marked("-->", "main = 1-@->2;", 1);
        Check.marked("== is not =", "main @== 2;", 1);
        Check.marked("= and =", "main = @= 2;", 1);
        Check.marked("===", "main = 1==@=2;", 1);
        Check.fine("<=", "main = 1<=2;");
        Check.marked("< and =", "main = 1 < @= 2;", 1);
        Check.marked("<==", "main = 1<=@=2;", 1);
        Check.marked("=<", "main = 1 @=< 2;", 1);
        Check.fine("= and -", "main=case 1of{_->0};");
        Check.marked("<-", "main = 1 <@- 2;", 1);
    }

    private static void noWords() {
        String none = "!\"$&':>?@[]^`~";
        for (int i = 0; i < none.length(); i++) {
            char sign = none.charAt(i);
            Check.fault("no word: " + sign, "main = 1 " + sign + " 2;", 1, 9);
            Check.fault("no word first: " + sign, sign + "main = 1;", 1, 0);
            Check.fault("no word last: " + sign, "main = 1;" + sign, 1, 9);
            Check.fault("no word in a name: " + sign, "ma" + sign + "in = 1;", 1, 2);
        }
        String words = "(){}=;,\\._+-*/%<|";
        for (int i = 0; i < words.length(); i++) {
            Check.fault("a word that is no function: " + words.charAt(i), "main = 1; " + words.charAt(i), 1, 10);
        }
    }

    private static void data() {
        Check.fine("no data", "main = 1;");
        Check.fine("some", "data A 0; data B 0; data C 1 | D 2; main = 1;");
        Check.marked("data alone", "data A 0;@", 1);
        Check.marked("behind a function", "main = 1; @data A 0;", 1);
        Check.marked("nothing", "data @; main = 1;", 1);
        Check.marked("no number", "data A@; main = 1;", 1);
        Check.marked("no CONSTRUCTOR", "data @a 1; main = 1;", 1);
        Check.marked("a number first", "data @1 A; main = 1;", 1);
        Check.marked("nothing behind |", "data A 1 | @; main = 1;", 1);
        Check.marked("| first", "data @| A 1; main = 1;", 1);
        Check.marked("| twice", "data A 1 | @| B 1; main = 1;", 1);
        Check.marked("no | between", "data A 1 @B 1; main = 1;", 1);
        Check.marked(", between", "data A 1 @, B 1; main = 1;", 1);
        Check.marked("no ;", "data A 1 @data B 1; main = 1;", 1);
        for (int fields = 0; fields <= 4; fields++) {
            Check.fine(fields + " fields", "data A " + fields + "; main = 1;");
            Check.fine(fields + " fields with zeros", "data A 000000000" + fields + "; main = 1;");
        }
        Check.marked("five fields", "data A @5; main = 1;", 1);
        Check.marked("five fields of the second", "data A 4 | B @5; main = 1;", 1);
        Check.marked("ten fields", "data A @10; main = 1;", 1);
        Check.marked("very many fields", "data A @2147483647; main = 1;", 1);
        Check.marked("less than none", "data A @-1; main = 1;", 1);
        Check.marked("eleven digits of fields", "data A @00000000004; main = 1;", 1);
    }

    private static void functions() {
        Check.marked("no text", "@", 1);
        Check.marked("no NAME", "@= 1;", 1);
        Check.marked("a CONSTRUCTOR", "@Main = 1;", 1);
        Check.marked("no =", "main @1;", 1);
        Check.marked("no E", "main = @;", 1);
        Check.marked("no ;", "main = 1@", 1);
        Check.marked("no ; between", "f = 1 g @= 2; main = 1;", 1);
        Check.marked("; twice", "main = 1;@;", 1);
        Check.marked("a number as a parameter", "f @1 = 1; main = 1;", 1);
        Check.marked("a CONSTRUCTOR as a parameter", "f @A = 1; main = 1;", 1);
        Check.marked("a parameter in ( )", "f @(a) = 1; main = 1;", 1);
        for (int n = 0; n <= 5; n++) {
            Check.fine(n + " parameters", "f" + " a b c d e".substring(0, 2 * n) + " = 1; main = 1;");
        }
    }

    private static void expressions() {
        Check.marked("let is no ATOM", "main = 1 + @let x = 1 in x;", 1);
        Check.marked("a lambda is no ATOM", "main = 1 + @\\ x . x;", 1);
        Check.marked("case is no ATOM", "main = 1 + @case 1 of {_ -> 1};", 1);
        Check.marked("let is no argument", "main = 1 @let x = 1 in x;", 1);
        Check.marked("a lambda is no argument", "main = 1 @\\ x . x;", 1);
        Check.marked("case is no argument", "main = 1 @case 1 of {_ -> 1};", 1);
        Check.marked("let is no side", "main = 1 == @let x = 1 in x;", 1);
        Check.marked("a case is over", "main = case 1 of {_ -> 1} @+ 1;", 1);
        Check.marked("a case has no arguments", "main = case 1 of {_ -> 1} @1;", 1);
        Check.fine("in ( ) they are", "main = 1 + (let x = 1 in x) + (\\ x . x) 1 + (case 1 of {_ -> 1}) 2;");
        Check.fine("one in another", "main = let f = \\ x . case x of {_ -> let y = x in \\ z . y} in f;");
        Check.fine("as far as they can", "main = let x = 1 in x + 1 < x * 2; f = \\ a . a a + 1; g = case 1 + 2 < 3 of {_ -> 1};");
        Check.marked("no )", "main = (1@;", 1);
        Check.marked("nothing in ( )", "main = (@);", 1);
        Check.marked("no (", "main = 1@);", 1);
        Check.marked("} for )", "main = (1@};", 1);
    }

    private static void lets() {
        Check.marked("no BINDING", "main = let @in 1;", 1);
        Check.marked("no =", "main = let x @1 in 1;", 1);
        Check.marked("no E", "main = let x = @in 1;", 1);
        Check.marked("no in", "main = let x = 1@;", 1);
        Check.marked("; between", "main = let x = 1@; y = 2 in 1;", 1);
        Check.marked("nothing behind ,", "main = let x = 1, @in 1;", 1);
        Check.marked("no E behind in", "main = let x = 1 in @;", 1);
        Check.marked("a number bound", "main = let @1 = 1 in 1;", 1);
        Check.marked("a CONSTRUCTOR bound", "main = let @True = 1 in 1;", 1);
        for (int n = 1; n <= 5; n++) {
            Check.fine(n + " BINDINGS", "main = let " + "a=1,b=1,c=1,d=1,e=1".substring(0, 4 * n - 1) + " in 1;");
        }
        for (int n = 0; n <= 5; n++) {
            Check.fine(n + " parameters of a BINDING", "main = let f" + " a b c d e".substring(0, 2 * n) + " = 1 in 1;");
        }
    }

    private static void lambdas() {
        Check.marked("no parameters", "main = \\ @. 1;", 1);
        Check.marked("no .", "main = \\ x @1;", 1);
        Check.marked("-> for .", "main = \\ x @-> 1;", 1);
        Check.marked("no E", "main = \\ x . @;", 1);
        Check.marked("a number", "main = \\ @1 . 1;", 1);
        Check.marked("a _", "main = \\ @_ . 1;", 1);
        for (int n = 1; n <= 5; n++) {
            Check.fine(n + " parameters of a lambda", "main = \\" + " a b c d e".substring(0, 2 * n) + " . 1;");
        }
    }

    private static void cases() {
        Check.marked("no alternatives", "main = case 1 of {@};", 1);
        Check.marked("no E", "main = case @of {_ -> 1};", 1);
        Check.marked("no of", "main = case 1 @{_ -> 1};", 1);
        Check.marked("no {", "main = case 1 of @_ -> 1;", 1);
        Check.marked("no ->", "main = case 1 of {_ @1};", 1);
        Check.marked("no E behind ->", "main = case 1 of {_ -> @};", 1);
        Check.marked("no }", "main = case 1 of {_ -> 1;@", 1);
        Check.marked("nothing behind ;", "main = case 1 of {_ -> 1;@};", 1);
        Check.marked(", between", "main = case 1 of {1 -> 1@, _ -> 2};", 1);
        Check.marked("a NAME is no PATTERN", "main = case 1 of {@x -> 1};", 1);
        Check.marked("nor is a (", "main = case 1 of {@(1) -> 1};", 1);
        Check.marked("nor less than 0", "main = case 1 of {@-1 -> 1};", 1);
        Check.marked("a number with a name", "main = case 1 of {1 @x -> 1};", 1);
        Check.marked("a _ with a name", "main = case 1 of {_ @x -> 1};", 1);
        Check.marked("a name too few", "data C 2; main = case 1 of {C a @-> 1};", 1);
        Check.marked("all names too few", "data C 1; main = case 1 of {C @-> 1};", 1);
        Check.marked("a name too many", "data C 1; main = case 1 of {C a @b -> 1};", 1);
        Check.marked("a name of none", "main = case 1 of {True @a -> 1};", 1);
        Check.marked("a name too many of four", "data C 4; main = case 1 of {C a b c d @e -> 1};", 1);
        Check.marked("a number for a name", "data C 1; main = case 1 of {C @1 -> 1};", 1);
        Check.marked("a _ for a name", "data C 1; main = case 1 of {C @_ -> 1};", 1);
        Check.fine("as many names as fields", "data A 0 | B 1 | C 2 | D 3 | E 4; main = case A of "
            + "{A -> 1; B a -> 1; C a b -> 1; D a b c -> 1; E a b c d -> 1};");
        for (int n = 1; n <= 8; n++) {
            Check.fine(n + " alternatives", "main = case 1 of {" + "1->1;".repeat(n - 1) + "_->1};");
        }
    }

    private static void comparisonsAndSums() {
        String[] signs = {"==", "<", "<="};
        for (String first : signs) {
            for (String second : signs) {
                Check.marked("two comparisons", "main = 1 " + first + " 2 @" + second + " 3;", 1);
            }
            Check.fine("one", "main = 1 + 2 " + first + " 3 * 4;");
            Check.fine("in ( )", "main = (1 " + first + " 2) " + first + " 3;");
            Check.marked("nothing ahead", "main = @" + first + " 1;", 1);
            Check.marked("nothing behind", "main = 1 " + first + "@;", 1);
        }
        for (String sign : new String[] {"+", "-", "*", "/", "%"}) {
            Check.marked("nothing ahead", "main = @" + sign + " 1;", 1);
            Check.marked("nothing behind", "main = 1 " + sign + "@;", 1);
            Check.marked("twice", "main = 1 " + sign + " @" + sign + " 1;", 1);
            Check.marked("none behind a comparison", "main = 1 < @" + sign + " 1;", 1);
            Check.fine("many", "main = 1" + (sign + "1").repeat(30) + ";");
        }
    }

    private static void applications() {
        Check.marked("a field too few", "data C 2; main = C 1@;", 1);
        Check.marked("all fields too few", "data C 1; main = C@;", 1);
        Check.marked("a field too many", "data C 1; main = C 1 @2;", 1);
        Check.marked("a field too many of four", "data C 4; main = C 1 2 3 4 @5;", 1);
        Check.marked("a sign for a field", "data C 2; main = C 1 @+ 1;", 1);
        Check.marked("with fields it is no argument", "data C 1; f x = x; main = f @C 1;", 1);
        Check.marked("nor a field", "data C 1; main = C @C 1;", 1);
        Check.fine("in ( ) it is", "data C 1; f x = x; main = C (C (f (C 1)));");
        Check.fine("without fields it is", "data C 2; f x = x; main = C True (f False);");
        for (int n = 0; n <= 5; n++) {
            Check.fine("a NAME and " + n + " more", "f = 1; main = f" + " 1 2 3 4 5".substring(0, 2 * n) + ";");
            Check.fine("a CONSTRUCTOR and " + n + " more", "main = True" + " 1 2 3 4 5".substring(0, 2 * n) + ";");
            Check.fine("a NUMBER and " + n + " more", "main = 0" + " 1 2 3 4 5".substring(0, 2 * n) + ";");
            Check.fine("fail and " + n + " more", "main = fail" + " 1 2 3 4 5".substring(0, 2 * n) + ";");
            Check.fine("( ) and " + n + " more", "main = (0)" + " 1 2 3 4 5".substring(0, 2 * n) + ";");
        }
        Check.fine("all kinds of ATOMS", "f = 1; main = f f True 1 fail (f);");
    }

    /** A text that ends behind any of its words has its fault at its number of signs. */
    private static void endOfText() {
        String[] words = ("data C 2 | D 0 ; main = let x = C 1 D , g y z = y + ( \\ a . a * fail ) z in "
            + "case g x 2 < 3 of { C p q -> p ; 7 -> x ; _ -> g } ;").split(" ");
        StringBuilder text = new StringBuilder();
        for (String word : words) {
            Check.fault("the end behind " + text, text.toString(), 1, text.length());
            Check.fault("with blanks", text + " \n", 1, text.length() + 2);
            Check.fault("with #", text + " # x;", 1, text.length() + 5);
            text.append(text.length() == 0 ? "" : " ").append(word);
        }
        Check.fine("the whole text", text.toString());
    }

    private static void openInOneAnother() {
        String[][] kinds = {
            {"(", ")"}, {"let x=1 in ", ""}, {"let x=", " in 1"}, {"\\x.", ""}, {"case 1 of {_->", "}"},
            {"case ", " of {_->1}"}, {"1+(", ")"}, {"1 (", ")"}, {"O (", ")"}, {"case 1 of {1->1;_->", ";2->1}"},
            {"let x=1,f x=", " in 1"},
        };
        for (String[] kind : kinds) {
            Check.fine("30 " + kind[0], "data O 1;main=" + kind[0].repeat(30) + "1" + kind[1].repeat(30) + ";");
            int at = Math.max(kind[0].indexOf('('), 0);
            String last = kind[0].substring(0, at) + "@" + kind[0].substring(at);
            Check.marked("31 " + kind[0], "data O 1;main=" + kind[0].repeat(30) + last + "1" + kind[1].repeat(31) + ";", 1);
        }
    }

    private static void openMixed() {
        String open = "(let x=\\y.case (";
        String close = ") of {_->1} in 1)";
        String most = open.repeat(6);
        Check.fine("30 of all kinds", "main=" + most + "1" + close.repeat(6) + ";");
        for (String one : new String[] {"(", "let ", "\\", "case "}) {
            Check.marked("the 31st is " + one, "main=" + most + "@" + one, 1);
        }
        Check.fine("a NAME is not", "main=" + most + "x" + close.repeat(6) + ";");
        Check.marked("a ( that can't stand there", "main=" + most + "1+@(", 1);
    }

    private static void openEnds() {
        String[] whole = {"(1)", "(let x=1 in x)", "(\\x.x)", "(case 1 of {_->1})", "(let f x=(x) in (f))"};
        for (String one : whole) {
            Check.fine("many, one behind another " + one, "main=" + (one + "+").repeat(35) + "1;");
        }
        String most = "(".repeat(28);
        Check.fine("two more, again and again", "main=" + most + "((1))+(\\x.x)+(let x=1 in x)+(case 1 of {_->1})" + ")".repeat(28) + ";");
        Check.marked("but not three", "main=" + most + "((1))+((@(1)))" + ")".repeat(28) + ";", 1);
        Check.fine("BINDINGS end", "main=" + "(".repeat(27) + "let a=\\x.(1),b=\\y.(1),c=(\\z.1) in \\u.(1)" + ")".repeat(27) + ";");
        Check.fine("alternatives end", "main=" + "(".repeat(27) + "case (\\x.1) of {1->\\y.(1);2->(\\z.1);_->(\\u.1)}" + ")".repeat(27) + ";");
        Check.fine("functions end", "f=" + "\\x.".repeat(30) + "1;g=" + "\\x.".repeat(30) + "1;main=" + "(".repeat(30) + "1" + ")".repeat(30) + ";");
    }

    private static void faultsAreKept() {
        Forge x = Check.forge("main = 1;");
        x.run(false, 0);
        Check.due("a fault", Check.program(x, "main = 1"), LazyForge.NONE);
        Check.due("the text is empty then", x.about(3), 0);
        Check.due("no functions", x.about(0), 0);
        Check.due("no CONSTRUCTORS", x.about(1), 0);
        Check.due("no parts", x.about(2), 0);
        Check.due("no run", x.result(0), 0);
        Check.refuses("no row", IndexOutOfBoundsException.class, () -> x.number(0));
        Check.refuses("no program", IllegalStateException.class, () -> x.run(false, 1));
        Check.text(x, "something");
        Check.due("the fault's kind stays", x.fault(0), 1);
        Check.due("the fault's place stays", x.fault(1), 8);
        Check.program(x, "main = 1;");
        Check.due("no fault any more", x.fault(0), 0);
        Check.due("nor a place", x.fault(1), LazyForge.NONE);
        String[] late = {"main = x;", "h a b c d e = \\ f g i . \\ j . a+b+c+d+e+f+g+i; main = 1;", "f = 1;",
            "main = " + "1+".repeat(40) + "1;"};
        for (int i = 0; i < late.length; i++) {
            Check.due("a late fault", Check.program(x, late[i]), LazyForge.NONE);
            Check.due("its kind", x.fault(0), 5 + i);
            Check.due("the text is empty", x.about(3), 0);
            Check.due("no functions", x.about(0), 0);
            Check.due("no CONSTRUCTORS", x.about(1), 0);
            Check.due("no parts", x.about(2), 0);
            Check.refuses("no program then", IllegalStateException.class, () -> x.write());
            Check.due("none behind it", Check.program(x, "main = \\ x . x;"), 2);
            Check.due("no kind", x.fault(0), 0);
            Check.due("no place", x.fault(1), LazyForge.NONE);
        }
    }

    private static void faultWhat() {
        Forge x = new Forge();
        for (int round = 0; round < 3; round++) {
            for (int what : new int[] {-1, 2, Integer.MIN_VALUE, Integer.MAX_VALUE}) {
                Check.refuses("fault " + what, IllegalArgumentException.class, () -> x.fault(what));
            }
            Check.due("kind " + round, x.fault(0), round == 1 ? 1 : 0);
            Check.due("place " + round, x.fault(1), round == 1 ? 6 : LazyForge.NONE);
            Check.program(x, round == 0 ? "main =" : "main = 1;");
        }
    }
}
