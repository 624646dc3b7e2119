/** Promises 5 and 6: program and fault, with Terms 1: the faults of kinds 2 to 8, and the parts read since the beginning. */
public final class FaultTest {
    private static final String FIVE = "(let a=1,b=1,c=1,d=1,e=1 in 1)";

    public static void main(String[] args) {
        thereAlready();
        notThereYet();
        noConstructor();
        tooManyConstructors();
        tooManyFunctions();
        tooManyParameters();
        tooManyBindings();
        tooManyAtoms();
        tooManyAlternatives();
        tooManyParts();
        lastPartThatFits();
        leastKindOfOneWord();
        leastKindAtTheLastPart();
        firstWordFirst();
        nothingThere();
        tooManyLifted();
        noMain();
        tooHigh();
        tooManyVariables();
        lateFaultsInOrder();
        partsReadEver();
        partsUpToFaults();
        partsOfLateFaults();
        moreThanAllParts();
        Check.close("FaultTest");
    }

    private static void thereAlready() {
        Check.marked("a CONSTRUCTOR", "data A 1 | @A 1; main = 1;", 2);
        Check.marked("a CONSTRUCTOR of other data", "data A 1; data B 1 | @A 2; main = 1;", 2);
        Check.marked("False", "data @False 0; main = 1;", 2);
        Check.marked("True", "data A 0 | @True 4; main = 1;", 2);
        Check.marked("a function", "main = 1; @main = 2;", 2);
        Check.marked("a function behind others", "f = 1; main = 1; @f a = 2;", 2);
        Check.marked("a parameter", "f a @a = 1; main = 1;", 2);
        Check.marked("the fifth parameter", "f a b c d @a = 1; main = 1;", 2);
        Check.marked("a lambda's parameter", "main = \\ a @a . 1;", 2);
        Check.marked("a lambda's fifth", "main = \\ a b c d @d . 1;", 2);
        Check.marked("a BINDING's parameter", "main = let f a @a = 1 in 1;", 2);
        Check.marked("a BINDING's fifth", "main = let f a b c d @b = 1 in 1;", 2);
        Check.marked("a BINDING", "main = let a = 1, @a = 2 in 1;", 2);
        Check.marked("a BINDING with parameters", "main = let a = 1, @a b = 2 in 1;", 2);
        Check.marked("a BINDING behind one with parameters", "main = let a b = 1, c = 1, @a = 2 in 1;", 2);
        Check.marked("the fifth BINDING", "main = let a = 1, b = 1, c = 1, d = 1, @a = 2 in 1;", 2);
        Check.marked("a PATTERN's NAME", "data C 2; main = case 1 of {C a @a -> 1};", 2);
        Check.marked("a PATTERN's fourth", "data C 4; main = case 1 of {C a b c @a -> 1};", 2);
    }

    private static void notThereYet() {
        Check.fine("a parameter with its function's name", "f f = f; main = 1;");
        Check.fine("two functions' parameters", "f a = a; g a = a; main = 1;");
        Check.fine("a lambda's within another's", "main = \\ a . \\ a . a;");
        Check.fine("a BINDING's parameter with its name", "main = let f f = f in f;");
        Check.fine("a BINDING's parameter with another's name", "main = let a b = b, b a = a in a;");
        Check.fine("a let's in a let", "main = let a = let a = 1 in a in let a = 2 in a;");
        Check.fine("a PATTERN's with a name around", "data C 1; f a = case a of {C a -> case a of {C a -> a}}; main = 1;");
        Check.fine("two PATTERNS' names", "data C 2; main = case C 1 2 of {C a b -> a; C a b -> b};");
        Check.fine("PATTERNS that are there already", "main = case 1 of {1 -> 1; 1 -> 2; _ -> 3; _ -> 4; True -> 5; True -> 6};");
    }

    private static void noConstructor() {
        Check.marked("in an E", "main = @Nil;", 3);
        Check.marked("in a PATTERN", "main = case 1 of {@Nil -> 1};", 3);
        Check.marked("in the second PATTERN", "main = case 1 of {_ -> 1; @Nil -> 1};", 3);
        Check.marked("as an argument", "f x = x; main = f @Nil;", 3);
        Check.marked("as a field", "data C 1; main = C @Nil;", 3);
        Check.marked("behind a sign", "main = 1 + @Nil;", 3);
        Check.marked("of another name", "data Nil 0; main = @Ni;", 3);
        Check.marked("ahead of a later fault", "main = @Nil Nil (;", 3);
        Check.marked("where no ATOM can stand", "data C 1; main = C 1 @Nil;", 1);
        Check.marked("where a NAME stands", "f @Nil = 1; main = 1;", 1);
        Check.marked("of an earlier text", "main = @A;", 3);
        Forge x = Check.forge("data A 0; main = A;");
        Check.due("what an earlier text had", Check.program(x, "main = A;"), LazyForge.NONE);
        Check.due("is none", x.fault(0), 3);
    }

    /** data with so many CONSTRUCTORS, without its end. */
    private static String constructors(int many) {
        StringBuilder text = new StringBuilder("data C0 0");
        for (int i = 1; i < many; i++) {
            text.append("|C").append(i).append(" 0");
        }
        return text.toString();
    }

    private static void tooManyConstructors() {
        String most = constructors(28);
        Check.fine("30", most + ";main=1;");
        Check.due("30 are told", Check.forge(most + ";main=C27;").about(1), 30);
        Check.marked("31", most + "|@D 0;main=1;", 4);
        Check.marked("31 in other data", most + ";data @D 0;main=1;", 4);
        Check.marked("32", most + "|@D 0|E 0;main=1;", 4);
        Check.marked("the 31st is there already", most + "|@C3 0;main=1;", 2);
        Check.marked("the 31st is True", most + "|@True 0;main=1;", 2);
        Check.marked("the 31st is no CONSTRUCTOR", most + "|@d 0;main=1;", 1);
        Check.marked("the 31st is too long", most + "|@Abcdefghi 0;main=1;", 1);
        Check.marked("no number behind the 30th", constructors(27) + "|D @;main=1;", 1);
        Forge x = Check.forge(most + ";main=C27;");
        x.run(false, 0);
        Check.due("the last one's number", x.number(1), 29);
    }

    /** main and so many more functions. */
    private static String functions(int more) {
        StringBuilder text = new StringBuilder("main=1;");
        for (int i = 1; i <= more; i++) {
            text.append("g").append(i).append("=1;");
        }
        return text.toString();
    }

    private static void tooManyFunctions() {
        Check.fine("30", functions(29));
        Check.due("30 are told", Check.forge(functions(29)).about(0), 30);
        Check.marked("31", functions(29) + "@h=1;", 4);
        Check.marked("31 with a fault behind", functions(29) + "@h=;", 4);
        Check.marked("the 31st is there already", functions(29) + "@g7=1;", 2);
        Check.marked("the 31st is no NAME", functions(29) + "@H=1;", 1);
        Check.marked("the 31st is a keyword", functions(29) + "@data H 0;", 1);
        Check.marked("the 31st is too long", functions(29) + "@abcdefghi=1;", 1);
        Check.fine("lifted ones are not counted", functions(28) + "h=\\x.x;");
    }

    private static void tooManyParameters() {
        Check.fine("five", "f a b c d e = 1; main = 1;");
        Check.marked("six", "f a b c d e @g = 1; main = 1;", 4);
        Check.marked("seven", "f a b c d e @g h = 1; main = 1;", 4);
        Check.marked("the sixth is there already", "f a b c d e @a = 1; main = 1;", 2);
        Check.marked("the sixth is too long", "f a b c d e @abcdefghi = 1; main = 1;", 1);
        Check.marked("the sixth is a keyword", "f a b c d e @of = 1; main = 1;", 1);
        Check.marked("the sixth is a number", "f a b c d e @1 = 1; main = 1;", 1);
        Check.marked("six of a lambda", "main = \\ a b c d e @f . 1;", 4);
        Check.marked("a lambda's sixth is there already", "main = \\ a b c d e @e . 1;", 2);
        Check.marked("a lambda's sixth is none", "main = \\ a b c d e @-> 1;", 1);
        Check.marked("six of a BINDING", "main = let f a b c d e @g = 1 in 1;", 4);
        Check.marked("a BINDING's sixth is there already", "main = let f a b c d e @c = 1 in 1;", 2);
        Check.marked("a BINDING's sixth has its name", "main = let f a b c d e @f = 1 in 1;", 4);
    }

    private static void tooManyBindings() {
        Check.fine("five", "main = let a=1,b=1,c=1,d=1,e=1 in 1;");
        Check.marked("six", "main = let a=1,b=1,c=1,d=1,e=1,@f=1 in 1;", 4);
        Check.marked("six with parameters", "main = let a x=1,b x=1,c x=1,d x=1,e x=1,@f x=1 in 1;", 4);
        Check.marked("the sixth is there already", "main = let a=1,b=1,c=1,d=1,e=1,@a=1 in 1;", 2);
        Check.marked("the sixth is none", "main = let a=1,b=1,c=1,d=1,e=1,@in 1;", 1);
        Check.marked("the sixth is too long", "main = let a=1,b=1,c=1,d=1,e=1,@abcdefghi=1 in 1;", 1);
        Check.fine("those of a let within are others", "main = let a=let a=1,b=1,c=1,d=1,e=1 in 1,b=1,c=1,d=1,e=1 in 1;");
    }

    private static void tooManyAtoms() {
        Check.fine("five behind the first", "main = 0 1 2 3 4 5;");
        for (String sixth : new String[] {"6", "main", "True", "fail", "(6)", "2147483647"}) {
            Check.fine("the fifth is " + sixth, "main = 0 1 2 3 4 " + sixth + ";");
            Check.marked("the sixth is " + sixth, "main = 0 1 2 3 4 5 @" + sixth + ";", 4);
            Check.marked("of a NAME " + sixth, "main = main 1 2 3 4 5 @" + sixth + ";", 4);
            Check.marked("of a CONSTRUCTOR " + sixth, "main = True 1 2 3 4 5 @" + sixth + ";", 4);
        }
        Check.marked("seven", "main = 0 1 2 3 4 5 @6 7;", 4);
        Check.marked("the sixth is no CONSTRUCTOR", "main = 0 1 2 3 4 5 @Foo;", 3);
        Check.marked("the sixth is no ATOM", "data C 1; main = 0 1 2 3 4 5 @C;", 1);
        Check.marked("the sixth is too great", "main = 0 1 2 3 4 5 @2147483648;", 1);
        Check.marked("the sixth is too long", "main = 0 1 2 3 4 5 @abcdefghi;", 1);
        Check.marked("the sixth is a lambda", "main = 0 1 2 3 4 5 @\\ x . x;", 1);
        Check.fine("those in ( ) are others", "main = 0 1 2 3 4 (0 1 2 3 4 5);");
        Check.fine("those behind a sign are others", "main = 0 1 2 3 4 5 + 0 1 2 3 4 5;");
    }

    private static void tooManyAlternatives() {
        String eight = "main = case 1 of {" + "1->1;".repeat(8);
        Check.fine("eight", "main = case 1 of {" + "1->1;".repeat(7) + "_->1};");
        Check.marked("nine", eight + "@_->1};", 4);
        Check.marked("the ninth is a number", eight + "@9->1};", 4);
        Check.marked("the ninth is a CONSTRUCTOR", eight + "@True->1};", 4);
        Check.marked("the ninth has names", "data C 2; " + eight + "@C a b->1};", 4);
        Check.marked("the ninth is none", eight + "@x->1};", 1);
        Check.marked("nothing behind the eighth", eight + "@};", 1);
        Check.marked("the ninth has no CONSTRUCTOR", eight + "@X->1};", 3);
        Check.marked("the ninth is too great", eight + "@2147483648->1};", 1);
        Check.fine("those of a case within are others", "main = case 1 of {" + "1->1;".repeat(7)
            + "_->case 1 of {" + "1->1;".repeat(7) + "_->1}};");
    }

    private static void tooManyParts() {
        Check.due("600 are told", Check.forge(Check.parts(597) + "main=1+1;").about(2), 600);
        Check.marked("a sign", Check.parts(599) + "main=1@+1;", 4);
        Check.marked("a comparison's sign", Check.parts(599) + "main=1@==1;", 4);
        Check.marked("behind a sign", Check.parts(598) + "main=1+@1;", 4);
        Check.marked("a NAME", Check.parts(600) + "main=@main;", 4);
        Check.marked("a NUMBER", Check.parts(600) + "main=@7;", 4);
        Check.marked("fail", Check.parts(600) + "main=@fail;", 4);
        Check.marked("a CONSTRUCTOR", Check.parts(600) + "main=@True;", 4);
        Check.marked("a NAME in ( )", Check.parts(600) + "main=(@main);", 4);
        Check.marked("a let", Check.parts(600) + "main=@let x=1 in 1;", 4);
        Check.marked("a lambda", Check.parts(600) + "main=@\\ x . 1;", 4);
        Check.marked("a case", Check.parts(600) + "main=@case 1 of {_->1};", 4);
        Check.marked("a BINDING, at its first PARAMETER", Check.parts(599) + "main=let f @x=1 in 1;", 4);
        Check.marked("a BINDING's at its first of two", Check.parts(599) + "main=let f @x y=1 in 1;", 4);
        Check.marked("a BINDING's E", Check.parts(599) + "main=let f=@1 in 1;", 4);
        Check.marked("an APPLICATION, at its second ATOM", Check.parts(599) + "main=1 @1;", 4);
        Check.marked("that ATOM itself", Check.parts(598) + "main=1 @1;", 4);
        Check.marked("its third ATOM", Check.parts(597) + "main=1 1 @1;", 4);
        Check.marked("an APPLICATION's (", Check.parts(599) + "main=1 @(1);", 4);
        Check.marked("what is in ( )", Check.parts(598) + "main=1 (@1);", 4);
        Check.marked("an APPLICATION with fields", "data C 2;" + Check.parts(600) + "main=C @1 1;", 4);
        Check.marked("with fields and (", "data C 2;" + Check.parts(600) + "main=C @(1) 1;", 4);
        Check.marked("its first field", "data C 2;" + Check.parts(599) + "main=C (@1) 1;", 4);
        Check.marked("its first field without (", "data C 2;" + Check.parts(599) + "main=C @1 1;", 4);
        Check.marked("its second field", "data C 2;" + Check.parts(598) + "main=C 1 @1;", 4);
        Check.marked("a case's E", Check.parts(599) + "main=case @1 of {_->1};", 4);
        Check.marked("an alternative's E", Check.parts(598) + "main=case 1 of {_->@1};", 4);
    }

    /** The same ones fit as the last part of 600. */
    private static void lastPartThatFits() {
        Check.fine("a NUMBER", Check.parts(599) + "main=7;");
        Check.fine("a NAME", Check.parts(599) + "main=main;");
        Check.fine("behind a sign", Check.parts(597) + "main=1+1;");
        Check.fine("a second ATOM", Check.parts(597) + "main=1 1;");
        Check.fine("a second ATOM in ( )", Check.parts(597) + "main=1 (1);");
        Check.fine("a field", "data C 1;" + Check.parts(598) + "main=C 1;");
        Check.fine("a second field", "data C 2;" + Check.parts(597) + "main=C 1 1;");
        Check.fine("a let's E", Check.parts(597) + "main=let x=1 in 1;");
        Check.fine("a let's E behind a BINDING with parameters", Check.parts(596) + "main=let f x y=1 in 1;");
        Check.fine("a lambda's E", Check.parts(598) + "main=\\ x y . 1;");
        Check.fine("an alternative's E", Check.parts(597) + "main=case 1 of {_->1};");
        Check.fine("a PATTERN has no parts", "data C 4;" + Check.parts(596) + "main=case 1 of {C a b c d->1;True->2};");
        Check.fine("( ) is none", Check.parts(599) + "main=((1));");
        Check.fine("data has none", constructors(28) + ";" + Check.parts(599) + "main=1;");
        Check.marked("a fault behind 600 parts", Check.parts(599) + "main=1@", 1);
    }

    private static void leastKindOfOneWord() {
        Check.marked("the 31st open is the sixth ATOM", "main = " + "(".repeat(30) + "0 1 2 3 4 5 @(6)" + ")".repeat(30) + ";", 1);
        Check.marked("the 31st open is no ATOM behind the fields", "data C 1;main=" + "(".repeat(30) + "C 1 @(", 1);
        Check.marked("a CONSTRUCTOR that is none, where none stands", "main = case 1 of {1 @Foo -> 1};", 1);
        Check.marked("a NAME that is there already, where none stands", "main = case 1 of {1 @main -> 1};", 1);
    }

    private static void leastKindAtTheLastPart() {
        Check.marked("no CONSTRUCTOR", Check.parts(600) + "main=@Foo;", 3);
        Check.marked("no CONSTRUCTOR as a second ATOM", Check.parts(599) + "main=1 @Foo;", 3);
        Check.marked("no CONSTRUCTOR as a field", "data C 1;" + Check.parts(600) + "main=C @Foo;", 3);
        Check.marked("a CONSTRUCTOR with fields as a second ATOM", "data C 1;" + Check.parts(599) + "main=1 @C 1;", 1);
        Check.marked("a sign as a field", "data C 1;" + Check.parts(600) + "main=C @+;", 1);
        Check.marked("a number too great", Check.parts(600) + "main=@2147483648;", 1);
        Check.marked("a name too long", Check.parts(600) + "main=@abcdefghi;", 1);
        Check.marked("a keyword", Check.parts(600) + "main=@of;", 1);
        Check.marked("the second of two comparisons", Check.parts(597) + "main=1<1@<1;", 1);
        String open = Check.parts(600) + "main=" + "(".repeat(30);
        for (String one : new String[] {"(", "let x=1 in 1", "\\x.1", "case 1 of {_->1}"}) {
            Check.marked("the 31st open: " + one, open + "@" + one, 1);
        }
        Check.marked("the 31st open as a second ATOM", Check.parts(599) + "main=" + "(".repeat(30) + "1 @(1)", 1);
    }

    private static void firstWordFirst() {
        Check.marked("a greater kind ahead of a lesser one", "f a b c d e @g = Nil; f = +", 4);
        Check.marked("2 ahead of 1", "f a @a = ;", 2);
        Check.marked("3 ahead of 2", "f = @Nil; f = 1;", 3);
        Check.marked("4 ahead of 3", "main = 0 1 2 3 4 5 @6 Nil;", 4);
        Check.marked("1 ahead of all", "main = 1 @> 2; main = Nil;", 1);
        Check.marked("kinds 1 to 4 ahead of 5", "main = x; f = @Foo;", 3);
        Check.marked("the text's end ahead of 5", "main = x; f = y@", 1);
        Check.marked("kinds 1 to 4 ahead of 6", "h a b c d e = \\ f g i . \\ j . a+b+c+d+e+f+g+i; main = 1; @main = 1;", 2);
        Check.marked("kinds 1 to 4 ahead of 7", "f = 1; @f = 2;", 2);
        Check.marked("kinds 1 to 4 ahead of 8", "main = " + "1+".repeat(40) + "1@", 1);
    }

    private static void nothingThere() {
        Check.marked("a NAME", "main = @x;", 5);
        Check.marked("a NAME applied", "main = @x 1;", 5);
        Check.marked("an argument", "main = 1 @x;", 5);
        Check.marked("the first in the text", "main = 1 + @b; f = a;", 5);
        Check.marked("the first, in a lambda", "main = (\\ a . @b) c;", 5);
        Check.marked("the first, in a BINDING", "main = let f a = @b in c;", 5);
        Check.marked("behind its let", "main = (let x = 1 in x) + @x;", 5);
        Check.marked("behind its lambda", "main = (\\ x . x) @x;", 5);
        Check.marked("a parameter of another function", "f x = 1; main = @x;", 5);
        Check.marked("a PATTERN's in another alternative", "data C 1; main = case 1 of {C x -> x; _ -> @x};", 5);
        Check.marked("a PATTERN's in the case's E", "data C 1; main = case @x of {C x -> x};", 5);
        Check.marked("a BINDING's parameter in its let", "main = let f y = y in @y;", 5);
        Check.marked("a BINDING's parameter in another", "main = let f y = y, g = @y in 1;", 5);
        Check.marked("a function of an earlier text", "main = @f;", 5);
        Check.fine("a let's names in all BINDINGS", "main = let a = b, b = a in a;");
        Check.fine("a let's name in its own parameters' E", "main = let f y = f y in 1;");
        Check.fine("functions are everywhere", "main = g; g = main;");
        Check.fine("else the function", "x = 2; main = (let x = 1 in x) + x;");
    }

    private static void tooManyLifted() {
        String seven = "a + b + c + d + e + f + g";
        Check.fine("seven free and one", "h a b c d e = \\ f g . \\ i . " + seven + "; main = 1;");
        Check.marked("seven free and two", "h a b c d e = \\ f g . @\\ i j . " + seven + "; main = 1;", 6);
        Check.fine("three free and five", "h a b c = \\ p q r s t . a + b + c; main = 1;");
        Check.marked("four free and five", "h a b c d = @\\ p q r s t . a + b + c + d; main = 1;", 6);
        Check.fine("seven free and one of a BINDING", "h a b c d e = \\ f g . let k i = " + seven + " in k; main = 1;");
        Check.marked("seven free and two of a BINDING", "h a b c d e = \\ f g . let @k i j = " + seven + " in k; main = 1;", 6);
        Check.marked("its own name is free, too", "h a b c d e = \\ f g . let @k i = k + " + seven + " in k; main = 1;", 6);
        Check.marked("eight free", "h a b c d e = \\ f g i . @\\ j . i + " + seven + "; main = 1;", 6);
        Check.marked("the outer one first", "h a b c d e = \\ f . @\\ g i j . \\ k l m . k + " + seven + "; main = 1;", 6);
        Check.marked("the first in the text", "h a b c d = let @k p q r s t = a+b+c+d in \\ p q r s t . a+b+c+d; main = 1;", 6);
        Check.marked("a lambda ahead of a BINDING", "h a b c d = (@\\ p q r s t . a+b+c+d) (let k p q r s t = a+b+c+d in k); main = 1;", 6);
        Check.fine("functions are not free", "h a b c = \\ p q r s t . a + b + c + h + main; main = 1;");
        Check.fine("what is used twice counts once", "h a b c = \\ p q r s t . a+b+c+a+b+c+p+a; main = 1;");
    }

    private static void noMain() {
        Check.marked("none", "@f = 1;", 7);
        Check.marked("one with parameters", "@ f = 1; main x = 1;", 7);
        Check.marked("behind blanks", "@ \n # main\n f = 1;", 7);
        Check.marked("a BINDING is none", "@f = let main = 1 in main;", 7);
        Check.marked("another name", "@mai = 1; main1 = 1;", 7);
        Check.fine("the last one", "f = 1; g x = x; main = 1;");
    }

    private static String sum(int high) {
        return "1+".repeat(high - 1) + "1";
    }

    private static void tooHigh() {
        Check.fine("40 high", "main = " + sum(40) + ";");
        Check.due("40 are told", Check.forge("main = " + sum(40) + ";").function(0, 5), 40);
        Check.marked("41 high", "f = 1; @main = " + sum(41) + ";", 8);
        Check.marked("the first function", "  @main = " + sum(41) + "; f = " + sum(41) + ";", 8);
        Check.marked("in a lambda", "main = let a = @\\ x . " + sum(41) + " in a;", 8);
        Check.marked("in a BINDING", "main = let @a x = " + sum(41) + " in a;", 8);
        Check.marked("the first by numbers", "main = \\ x . " + sum(41) + "; @f = " + sum(41) + ";", 8);
        String[][] kinds = {
            {"(let x=1 in ", ")"}, {"(let x=", " in 1)"}, {"(case 1 of {_->", "})"}, {"(case ", " of {_->1})"},
            {"(1 (", "))"}, {"((", ") 1)"}, {"(O (", "))"}, {"(1<(", "))"}, {"((", ")==1)"}, {"(1+(", "))"}, {"(T 1 (", "))"},
        };
        for (String[] kind : kinds) {
            String data = "data O 1|T 2;";
            Check.fine("40 high with 15 of " + kind[0], data + "main=" + kind[0].repeat(15) + sum(25) + kind[1].repeat(15) + ";");
            Check.marked("41 high with 15 of " + kind[0], data + "@main=" + kind[0].repeat(15) + sum(26) + kind[1].repeat(15) + ";", 8);
        }
        Check.fine("( ) is not high", "main = " + "(".repeat(30) + sum(40) + ")".repeat(30) + ";");
        Check.fine("a lifted function alone is one high", "main = let k = 1 in (\\ x . x)" + "+1".repeat(38) + ";");
        Check.marked("an APPLICATION in its place is two high", "@main = let k = 1 in (\\ x . k)" + "+1".repeat(38) + ";", 8);
        Check.fine("lambdas within are not high there", "main = 1+(\\ x . " + sum(40) + ");");
        Check.fine("nor are BINDINGS with parameters", "main = let f x = " + sum(40) + " in f;");
        Check.marked("but those without are", "@main = let f = " + sum(40) + " in f;", 8);
    }

    private static void tooManyVariables() {
        String thirtyFive = (FIVE + "+").repeat(7);
        Check.fine("40", "main = " + thirtyFive + FIVE + ";");
        Check.due("40 are told", Check.forge("main = " + thirtyFive + FIVE + ";").function(0, 2), 40);
        Check.marked("41", "f = 1; @main = " + thirtyFive + FIVE + "+(let f=1 in 1);", 8);
        Check.fine("35 and five parameters", "f a b c d e = " + thirtyFive + "1; main = 1;");
        Check.marked("40 and a parameter", "@f x = " + thirtyFive + FIVE + "; main = 1;", 8);
        Check.fine("with PATTERNS", "data C 4; f x = " + thirtyFive + "(case x of {C a b c d -> 1}); main = 1;");
        Check.marked("with PATTERNS and one more", "data C 4; @f x y = " + thirtyFive + "(case x of {C a b c d -> 1}); main = 1;", 8);
        Check.fine("of a lambda with free ones", "main = let x = 1 in \\ y . " + thirtyFive + "(let a=1,b=1,c=1 in x);");
        Check.marked("of a lambda with free ones, one more", "main = let x = 1 in @\\ y . " + thirtyFive + "(let a=1,b=1,c=1,d=1 in x);", 8);
        Check.marked("of a BINDING", "main = let @x y = " + thirtyFive + FIVE + " in x;", 8);
        Check.fine("lambdas within left out", "main = " + thirtyFive + FIVE + "+(\\ y . let a=1 in 1);");
        Check.marked("the NAMES of BINDINGS with parameters are some", "@main = " + thirtyFive + FIVE + "+(let f x=1 in 1);", 8);
    }

    private static void lateFaultsInOrder() {
        String six = "h a b c d e = \\ f g i . \\ j . a+b+c+d+e+f+g+i;";
        Check.fault("5 ahead of 6, 7 and 8", six + "g=" + sum(41) + ";f=x;", 5, six.length() + 2 + 81 + 3);
        Check.fault("6 ahead of 7 and 8", "g=" + sum(41) + ";" + six, 6, 84 + 24);
        Check.fault("7 ahead of 8", "g=" + sum(41) + ";", 7, 0);
        Check.fault("8 the last", "main=1;g=" + sum(41) + ";", 8, 7);
    }

    /** 600 parts, whose text is OUT and may be taken again. */
    private static Forge sixHundred() {
        Forge x = Check.forge(Sums.of(2900).source() + "c1=1;c2=1;c3=1;");
        Check.due("600 parts", x.about(2), 600);
        x.write();
        return x;
    }

    private static void again(Forge x, int times) {
        for (int i = 0; i < times; i++) {
            x.take();
            x.program();
        }
        Check.due("600 parts again", x.about(2), 600);
    }

    private static int putWord(Forge x, String word) {
        int signs = 0;
        for (int i = word.length() - 1; i >= 0; i--) {
            signs = signs << 8 | word.charAt(i);
        }
        return x.put(signs);
    }

    /** A text of 9 signs (three calls) and one part. */
    private static void putMain(Forge x) {
        putWord(x, "main");
        putWord(x, "=1;");
    }

    private static void partsReadEver() {
        Forge x = sixHundred();
        again(x, 32);
        // 19800 so far.
        Check.due("199 more", Check.program(x, Check.parts(198) + "main=1;") > 0 ? 1 : 0, 1);
        putMain(x);
        Check.due("19999 were read: one more", x.program(), 1);
        putWord(x, "main");
        Check.refuses("20000 were read", UnsupportedOperationException.class, () -> x.program());
        Check.due("the text stays", x.about(3), 4);
        Check.due("the program stays", x.about(0), 1);
        Check.due("and its parts", x.about(2), 1);
        Check.due("no fault's kind", x.fault(0), 0);
        Check.due("nor place", x.fault(1), LazyForge.NONE);
        Check.due("it runs", x.run(false, 0), 1);
        Check.due("as before", x.number(1), 1);
        Check.refuses("again and again", UnsupportedOperationException.class, () -> x.program());
        Check.due("the run stays", x.result(0), 1);
        Check.due("its row stays", x.number(0), 1);
        x.end(0);
        Check.refuses("without a text, too", UnsupportedOperationException.class, () -> x.program());
        Check.due("it is written", x.write(), 10);
    }

    /** Of texts with faults parts are read up to these; the 601st is not. */
    private static void partsUpToFaults() {
        Forge x = sixHundred();
        for (int i = 0; i < 32; i++) {
            x.take();
            putWord(x, "x=1;");
            Check.due("a 601st part", x.program(), LazyForge.NONE);
        }
        Check.due("is too many", x.fault(0), 4);
        // 19800 so far; what is behind a fault isn't read.
        Check.due("199 and a fault", Check.program(x, Check.parts(199) + ";" + "1+1+1;"), LazyForge.NONE);
        Check.due("that fault", x.fault(0), 1);
        putWord(x, "a=+1");
        Check.due("19999: a fault ahead of all parts", x.program(), LazyForge.NONE);
        putWord(x, "a=1+");
        Check.due("19999: two parts up to the fault", x.program(), LazyForge.NONE);
        Check.due("its place", x.fault(1), 4);
        putMain(x);
        Check.refuses("20001 were read", UnsupportedOperationException.class, () -> x.program());
        Check.due("the text stays", x.about(3), 7);
        Check.due("the fault's kind stays", x.fault(0), 1);
        Check.due("the fault's place stays", x.fault(1), 4);
        Check.refuses("there is no program", IllegalStateException.class, () -> x.run(false, 0));
    }

    private static void partsOfLateFaults() {
        Forge x = Check.forge(Sums.of(2900).source() + "c1=1;c2=1;");
        x.write();
        for (int i = 0; i < 32; i++) {
            x.take();
            putWord(x, "x=y;");
            Check.due("nothing there", x.program(), LazyForge.NONE);
        }
        Check.due("a late fault", x.fault(0), 5);
        x.take();
        Check.due("there is room for one more", x.program(), 29);
        x.take();
        Check.refuses("but for one", UnsupportedOperationException.class, () -> x.program());
    }

    private static void moreThanAllParts() {
        Forge x = sixHundred();
        again(x, 32);
        Check.program(x, Check.parts(198) + "main=1;");
        x.take();
        Check.due("19999, and 600 more", x.program(), 30);
        x.take();
        Check.refuses("20599", UnsupportedOperationException.class, () -> x.program());
        Check.due("another object has read none", Check.program(new Forge(), "main=1;"), 1);
    }
}
