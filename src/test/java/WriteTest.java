/** Promises 7 and 8: write and letter, with Terms 2: lifting and its text. */
public final class WriteTest {
    public static void main(String[] args) {
        eachKind();
        lifting();
        variablesInOrder();
        edges();
        rereading();
        theMost();
        oneTooMany();
        farTooMany();
        whole();
        noProgram();
        letters();
        Check.close("WriteTest");
    }

    private static void written(String what, String text, String want) {
        Check.due(what, Check.written(Check.forge(text)), want);
    }

    private static void eachKind() {
        written("a number", "main=007;", "main = 7;\n");
        written("the greatest number", "main=2147483647;", "main = 2147483647;\n");
        written("numbers of some digits", "main=0+9+10+99+100+1000000000;",
            "main = (((((0 + 9) + 10) + 99) + 100) + 1000000000);\n");
        written("fail", "main=fail;", "main = fail;\n");
        written("a CONSTRUCTOR", "main=(True);", "main = True;\n");
        written("data", "data A 0|B 4;data Cde 1;main=B A A (Cde 1) True;",
            "data A 0 | B 4 | Cde 1;\nmain = (B A A (Cde 1) True);\n");
        written("parameters and functions", "g x y=g y x;main=h;h=main;",
            "f0 v0 v1 = (f0 v1 v0);\nmain = f2;\nf2 = main;\n");
        written("signs", "main=1+2*3-4/5%6;", "main = ((1 + (2 * 3)) - ((4 / 5) % 6));\n");
        written("comparisons", "f a=a==1;g a=a<1;main=1+1<=2;",
            "f0 v0 = (v0 == 1);\nf1 v0 = (v0 < 1);\nmain = ((1 + 1) <= 2);\n");
        written("let", "main=let a=b,b=1 in a+b;", "main = (let v0 = v1, v1 = 1 in (v0 + v1));\n");
        written("case", "data C 2|N 0;main=case N of{C a b->a;N->1;30->2;_->3};",
            "data C 2 | N 0;\nmain = (case N of {C v0 v1 -> v0; N -> 1; 30 -> 2; _ -> 3});\n");
        written("APPLICATIONS in one another", "f x=x;main=(f 1) (2) (f (3));", "f0 v0 = v0;\nmain = ((f0 1) 2 (f0 3));\n");
    }

    private static void lifting() {
        written("a lambda without free variables", "main=\\x.x;", "main = f1;\nf1 v0 = v0;\n");
        written("free variables in the order of their first use", "g a b c=\\x y.c+x+a+c;main=1;",
            "f0 v0 v1 v2 = (f2 v2 v0);\nmain = 1;\nf2 v0 v1 v2 v3 = (((v0 + v2) + v1) + v0);\n");
        written("a lambda in a lambda", "g a=\\b.\\c.a+b+c;main=1;",
            "f0 v0 = (f2 v0);\nmain = 1;\nf2 v0 v1 = (f3 v0 v1);\nf3 v0 v1 v2 = ((v0 + v1) + v2);\n");
        written("a BINDING that calls itself", "main=let go n=go (n-1) in go 3;",
            "main = (let v0 = (f1 v0) in (v0 3));\nf1 v0 v1 = (v0 (v1 - 1));\n");
        written("BINDINGS that call one another", "main=let f x=g x,k=2,g y=f k in g 3;",
            "main = (let v0 = (f1 v2), v1 = 2, v2 = (f2 v0 v1) in (v2 3));\n"
                + "f1 v0 v1 = (v0 v1);\nf2 v0 v1 v2 = (v0 v1);\n");
        written("numbers as they begin in the text", "main=let f x=\\y.x,g=\\z.z in \\w.f;h=\\u.u;",
            "main = (let v0 = f2, v1 = f4 in (f5 v0));\nf1 = f6;\nf2 v0 = (f3 v0);\nf3 v0 v1 = v0;\n"
                + "f4 v0 = v0;\nf5 v0 v1 = v0;\nf6 v0 = v0;\n");
        written("an applied lambda", "f a=(\\x.x) 1 + (\\x.x+a) 2;main=1;",
            "f0 v0 = ((f2 1) + ((f3 v0) 2));\nmain = 1;\nf2 v0 = v0;\nf3 v0 v1 = (v1 + v0);\n");
        written("functions are never free", "k=1;main=\\x.k+x;", "f0 = 1;\nmain = f2;\nf2 v0 = (f0 + v0);\n");
        Forge x = Check.forge("g a b c=\\x y.c+x+a+c;main=1;");
        Check.due("parameters", x.function(2, 0), 4);
        Check.due("free ones of these", x.function(2, 1), 2);
        Check.due("parts in its place", x.function(0, 3), 4);
    }

    private static void variablesInOrder() {
        written("lets and PATTERNS as they begin",
            "data P 2;f p=let a=let b=1 in b,c=case p of{P d e->\\z.let y=z in y;_->let g=1 in g} in let h=a in h;main=1;",
            "data P 2;\nf0 v0 = (let v1 = (let v3 = 1 in v3), v2 = (case v0 of {P v4 v5 -> f2; _ -> "
                + "(let v6 = 1 in v6)}) in (let v7 = v1 in v7));\nmain = 1;\nf2 v0 = (let v1 = v0 in v1);\n");
        written("the innermost name", "f a=let a=\\a.a in case a of{_->(\\b.a) a};main=1;",
            "f0 v0 = (let v1 = f2 in (case v1 of {_ -> ((f3 v1) v1)}));\nmain = 1;\nf2 v0 = v0;\nf3 v0 v1 = v0;\n");
    }

    private static void edges() {
        written("fields 0 to 4", "data A 0|B 1|C 2|D 3|E 4;main=A;",
            "data A 0 | B 1 | C 2 | D 3 | E 4;\nmain = A;\n");
        written("a CONSTRUCTOR of one sign and one of eight", "data A 0;data Abcdefg8 1;main=Abcdefg8 A;",
            "data A 0 | Abcdefg8 1;\nmain = (Abcdefg8 A);\n");
        written("False and True are not told", "main=case True of{False->True;True->False};",
            "main = (case True of {False -> True; True -> False});\n");
        written("five arguments", "main=0 1 2 3 4 5;", "main = (0 1 2 3 4 5);\n");
        written("four fields", "data E 4;main=E 1 2 3 4;", "data E 4;\nmain = (E 1 2 3 4);\n");
        written("five parameters", "g a b c d e=e;main=1;", "f0 v0 v1 v2 v3 v4 = v4;\nmain = 1;\n");
        written("eight parameters", "g a b c d=\\p q r s.a b c d;main=1;",
            "f0 v0 v1 v2 v3 = (f2 v0 v1 v2 v3);\nmain = 1;\nf2 v0 v1 v2 v3 v4 v5 v6 v7 = (v0 v1 v2 v3);\n");
        written("eight free variables and parameters in another order", "g a b c d e=\\p q.\\r.q p e d c b;main=1;",
            "f0 v0 v1 v2 v3 v4 = (f2 v4 v3 v2 v1);\nmain = 1;\n"
                + "f2 v0 v1 v2 v3 v4 v5 = (f3 v5 v4 v0 v1 v2 v3);\nf3 v0 v1 v2 v3 v4 v5 v6 = (v0 v1 v2 v3 v4 v5);\n");
        written("five BINDINGS", "main=let a=1,b=2,c=3,d=4,e=5 in e;",
            "main = (let v0 = 1, v1 = 2, v2 = 3, v3 = 4, v4 = 5 in v4);\n");
        written("eight alternatives", "main=case 7 of{0->0;1->1;2->2;3->3;4->4;5->5;6->6;2147483647->7};",
            "main = (case 7 of {0 -> 0; 1 -> 1; 2 -> 2; 3 -> 3; 4 -> 4; 5 -> 5; 6 -> 6; 2147483647 -> 7});\n");
        written("one alternative", "main=case 7 of{_->0};", "main = (case 7 of {_ -> 0});\n");
        manyVariables();
        allConstructors();
    }

    /** Numbers of variables up to 39: four parameters, and nine PATTERNS of four. */
    private static void manyVariables() {
        String one = "(case a of{C p q r s->s})";
        StringBuilder want = new StringBuilder("(".repeat(8));
        for (int i = 0; i < 9; i++) {
            int v = 4 + 4 * i;
            want.append(i == 0 ? "" : " + ");
            want.append(String.format("(case v0 of {C v%d v%d v%d v%d -> v%d})", v, v + 1, v + 2, v + 3, v + 3));
            want.append(i == 0 ? "" : ")");
        }
        written("40 variables", "data C 4;main=1;g a b c d=" + one + ("+" + one).repeat(8) + ";",
            "data C 4;\nmain = 1;\nf1 v0 v1 v2 v3 = " + want + ";\n");
    }

    private static void allConstructors() {
        StringBuilder text = new StringBuilder("data ");
        for (int i = 0; i < 28; i++) {
            text.append(i == 0 ? "" : " | ").append("C").append(i).append(" ").append(i % 5);
        }
        text.append(";\n");
        written("30 CONSTRUCTORS", text + "main=C0;", text + "main = C0;\n");
    }

    private static void rereading() {
        Forge x = Check.forge("data N 0|C 2;m f l=case l of{N->N;C a b->C (f a) (m f b)};main=let k=3 in m (\\x.x*k) (C 1 N);");
        String once = Check.written(x);
        int functions = x.about(0);
        x.take();
        Check.due("functions again", x.program(), functions);
        Check.due("nothing is left to lift", Check.written(x), once);
    }

    private static void theMost() {
        Wide wide = Wide.of(12000);
        Forge x = Check.forge(wide.source());
        Check.due("12000 signs", x.write(), 12000);
        Check.due("OUT has them", x.about(4), 12000);
        String due = wide.due();
        for (int k = 0; k < 12000; k += 97) {
            Check.due("sign " + k + " of 12000", x.letter(k), due.charAt(k));
        }
        Check.due("the last", x.letter(11999), 10);
        Check.due("behind", x.letter(12000), LazyForge.NONE);
        Check.due("they are too many to take", x.take(), LazyForge.NONE);
        Forge y = Check.forge(Wide.of(11999).source());
        Check.due("11999 signs", y.write(), 11999);
        Check.due("the last one", y.letter(11998), 10);
    }

    private static void oneTooMany() {
        Forge x = Check.forge("main = 42;");
        Check.due("a short one", x.write(), 11);
        Check.program(x, Wide.of(12001).source());
        Check.text(x, "main=6;");
        Check.due("12001 signs", x.write(), LazyForge.NONE);
        Check.due("OUT stays", Check.out(x), "main = 42;\n");
        Check.due("and how many it has", x.about(4), 11);
        Check.due("the text stays", x.about(3), 7);
        Check.due("the program stays", x.about(0) > 1 ? 1 : 0, 1);
        Check.due("once more", x.write(), LazyForge.NONE);
        Check.due("that program", x.program(), 1);
        Check.due("is written", Check.written(x), "main = 6;\n");
    }

    private static void farTooMany() {
        Forge x = Check.forge(Wide.of(13500).source());
        Check.due("13500 signs", x.write(), LazyForge.NONE);
        Check.due("OUT stays empty", x.about(4), 0);
        Check.due("without a sign", x.letter(0), LazyForge.NONE);
        Check.due("taken it is nothing", x.take(), 0);
    }

    private static void whole() {
        for (int signs : new int[] {300, 1000, 1001}) {
            Wide wide = Wide.of(signs);
            Forge x = Check.forge(wide.source());
            Check.due("signs of " + signs, x.write(), signs);
            String due = wide.due();
            for (int k = 0; k <= signs; k += signs > 300 ? 7 : 1) {
                Check.due("sign " + k + " of " + signs, x.letter(k), k < signs ? due.charAt(k) : LazyForge.NONE);
            }
        }
    }

    private static void noProgram() {
        Forge x = new Forge();
        Check.refuses("a new object", IllegalStateException.class, () -> x.write());
        Check.program(x, "main = 1;");
        Check.due("a program", x.write(), 10);
        Check.due("again", x.write(), 10);
        for (String text : new String[] {"", "main = ", "main = x;", "f = 1;"}) {
            Check.program(x, text);
            Check.refuses("a fault in " + text, IllegalStateException.class, () -> x.write());
            Check.due("OUT stays", Check.out(x), "main = 1;\n");
        }
        Check.text(x, "main = 2;");
        Check.refuses("a text that is no program yet", IllegalStateException.class, () -> x.write());
        Check.due("that stays", x.program(), 1);
        Check.due("OUT is still the old one", Check.out(x), "main = 1;\n");
        Check.due("until it is written", Check.written(x), "main = 2;\n");
    }

    private static void letters() {
        Forge x = Check.forge("main = 1;");
        Check.due("nothing is written yet", x.letter(0), LazyForge.NONE);
        Check.refuses("below, with nothing there", IndexOutOfBoundsException.class, () -> x.letter(-1));
        Check.due("write", x.write(), 10);
        Check.due("the first", x.letter(0), 'm');
        Check.due("the last", x.letter(9), 10);
        Check.due("behind", x.letter(10), LazyForge.NONE);
        Check.due("far behind", x.letter(Integer.MAX_VALUE), LazyForge.NONE);
        Check.refuses("below", IndexOutOfBoundsException.class, () -> x.letter(-1));
        Check.refuses("far below", IndexOutOfBoundsException.class, () -> x.letter(Integer.MIN_VALUE));
        Check.due("OUT stays", Check.out(x), "main = 1;\n");
        Check.program(x, "main = 12 + 34;");
        Check.due("a longer one", x.write(), 18);
        Check.due("its last", x.letter(17), 10);
        Check.program(x, "main = 5;");
        Check.due("a shorter one", x.write(), 10);
        Check.due("nothing of the longer one is behind it", x.letter(10), LazyForge.NONE);
    }
}
