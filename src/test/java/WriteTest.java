/** Promises 7 and 8: write and letter, with Terms 2: lifting and its text. */
public final class WriteTest {
    public static void main(String[] args) {
        eachKind();
        lifting();
        variablesInOrder();
        rereading();
        tooMuch();
        letters();
        Check.close("WriteTest");
    }

    private static void written(String what, String text, String want) {
        Check.due(what, Check.written(Check.forge(text)), want);
    }

    private static void eachKind() {
        written("a number", "main=007;", "main = 7;\n");
        written("the greatest number", "main=2147483647;", "main = 2147483647;\n");
        written("numbers of some digits", "main=0+9+10+99+100+1000000000;",
            "main = (((((0 + 9) + 10) + 99) + 100) + 1000000000);\n");
        written("fail", "main=fail;", "main = fail;\n");
        written("a CONSTRUCTOR", "main=(True);", "main = True;\n");
        written("data", "data A 0|B 4;data Cde 1;main=B A A (Cde 1) True;",
            "data A 0 | B 4 | Cde 1;\nmain = (B A A (Cde 1) True);\n");
        written("parameters and functions", "g x y=g y x;main=h;h=main;",
            "f0 v0 v1 = (f0 v1 v0);\nmain = f2;\nf2 = main;\n");
        written("signs", "main=1+2*3-4/5%6;", "main = ((1 + (2 * 3)) - ((4 / 5) % 6));\n");
        written("comparisons", "f a=a==1;g a=a<1;main=1+1<=2;",
            "f0 v0 = (v0 == 1);\nf1 v0 = (v0 < 1);\nmain = ((1 + 1) <= 2);\n");
        written("let", "main=let a=b,b=1 in a+b;", "main = (let v0 = v1, v1 = 1 in (v0 + v1));\n");
        written("case", "data C 2|N 0;main=case N of{C a b->a;N->1;30->2;_->3};",
            "data C 2 | N 0;\nmain = (case N of {C v0 v1 -> v0; N -> 1; 30 -> 2; _ -> 3});\n");
        written("APPLICATIONS in one another", "f x=x;main=(f 1) (2) (f (3));", "f0 v0 = v0;\nmain = ((f0 1) 2 (f0 3));\n");
    }

    private static void lifting() {
        written("a lambda without free variables", "main=\\x.x;", "main = f1;\nf1 v0 = v0;\n");
        written("free variables in the order of their first use", "g a b c=\\x y.c+x+a+c;main=1;",
            "f0 v0 v1 v2 = (f2 v2 v0);\nmain = 1;\nf2 v0 v1 v2 v3 = (((v0 + v2) + v1) + v0);\n");
        written("a lambda in a lambda", "g a=\\b.\\c.a+b+c;main=1;",
            "f0 v0 = (f2 v0);\nmain = 1;\nf2 v0 v1 = (f3 v0 v1);\nf3 v0 v1 v2 = ((v0 + v1) + v2);\n");
        written("a BINDING that calls itself", "main=let go n=go (n-1) in go 3;",
            "main = (let v0 = (f1 v0) in (v0 3));\nf1 v0 v1 = (v0 (v1 - 1));\n");
        written("BINDINGS that call one another", "main=let f x=g x,k=2,g y=f k in g 3;",
            "main = (let v0 = (f1 v2), v1 = 2, v2 = (f2 v0 v1) in (v2 3));\n"
                + "f1 v0 v1 = (v0 v1);\nf2 v0 v1 v2 = (v0 v1);\n");
        written("numbers as they begin in the text", "main=let f x=\\y.x,g=\\z.z in \\w.f;h=\\u.u;",
            "main = (let v0 = f2, v1 = f4 in (f5 v0));\nf1 = f6;\nf2 v0 = (f3 v0);\nf3 v0 v1 = v0;\n"
                + "f4 v0 = v0;\nf5 v0 v1 = v0;\nf6 v0 = v0;\n");
        written("an applied lambda", "f a=(\\x.x) 1 + (\\x.x+a) 2;main=1;",
            "f0 v0 = ((f2 1) + ((f3 v0) 2));\nmain = 1;\nf2 v0 = v0;\nf3 v0 v1 = (v1 + v0);\n");
        written("functions are never free", "k=1;main=\\x.k+x;", "f0 = 1;\nmain = f2;\nf2 v0 = (f0 + v0);\n");
        LazyForge x = Check.forge("g a b c=\\x y.c+x+a+c;main=1;");
        Check.due("parameters", x.function(2, 0), 4);
        Check.due("free ones of these", x.function(2, 1), 2);
        Check.due("parts in its place", x.function(0, 3), 4);
    }

    private static void variablesInOrder() {
        written("lets and PATTERNS as they begin",
            "data P 2;f p=let a=let b=1 in b,c=case p of{P d e->\\z.let y=z in y;_->let g=1 in g} in let h=a in h;main=1;",
            "data P 2;\nf0 v0 = (let v1 = (let v3 = 1 in v3), v2 = (case v0 of {P v4 v5 -> f2; _ -> "
                + "(let v6 = 1 in v6)}) in (let v7 = v1 in v7));\nmain = 1;\nf2 v0 = (let v1 = v0 in v1);\n");
        written("the innermost name", "f a=let a=\\a.a in case a of{_->(\\b.a) a};main=1;",
            "f0 v0 = (let v1 = f2 in (case v1 of {_ -> ((f3 v1) v1)}));\nmain = 1;\nf2 v0 = v0;\nf3 v0 v1 = v0;\n");
    }

    private static void rereading() {
        LazyForge x = Check.forge("data N 0|C 2;m f l=case l of{N->N;C a b->C (f a) (m f b)};main=let k=3 in m (\\x.x*k) (C 1 N);");
        String once = Check.written(x);
        int functions = x.about(0);
        x.take();
        Check.due("functions again", x.program(), functions);
        Check.due("nothing is left to lift", Check.written(x), once);
    }

    /** Thirty lambdas in one another in each function, each with five free variables in its place. */
    private static String deep(int functions) {
        StringBuilder text = new StringBuilder("main=1;");
        for (int f = 0; f < functions; f++) {
            text.append("g").append(f).append(" a b c d e=").append(Check.repeat("\\x.", 29)).append("a b c d e;");
        }
        return text.toString();
    }

    private static void tooMuch() {
        LazyForge x = Check.forge("main = 1;");
        x.write();
        int small = 0;
        int great = 0;
        for (int functions = 1; functions <= 16; functions++) {
            Check.program(x, deep(functions));
            int before = x.about(4);
            int signs = x.write();
            if (signs == LazyForge.NONE) {
                great++;
                Check.due("OUT stays", x.about(4), before);
                Check.due("with its signs", x.letter(0), 'm');
            } else {
                small++;
                Check.due("none is written behind a greater one that was refused", great, 0);
                Check.due("OUT", x.about(4), signs);
            }
        }
        Check.due("some are small", small > 0 ? 1 : 0, 1);
        Check.due("some are great", great > 0 ? 1 : 0, 1);
        justEnough(x);
        Check.program(x, "main = 2;");
        Check.due("the next one is whole", Check.written(x), "main = 2;\n");
    }

    /** Functions of ten numbers each are put behind, and their numbers get digits until 12000 signs are reached. */
    private static void justEnough(LazyForge x) {
        String most = deep(8);
        String ten = Check.repeat("7+", 9) + "7;";
        StringBuilder text = new StringBuilder(most);
        int missing = 12000;
        for (int pads = 1; pads <= 15 && missing > 81 * (pads - 1); pads++) {
            text.append("p").append(pads).append("=").append(ten);
            Check.program(x, text.toString());
            missing = 12000 - x.write();
        }
        Check.due("a digit for each sign", missing > 0 && missing < 12000 ? 1 : 0, 1);
        Check.program(x, withDigits(text, most.length(), missing));
        Check.due("12000 signs", x.write(), 12000);
        Check.due("OUT has them", x.about(4), 12000);
        Check.program(x, withDigits(text, most.length(), missing + 1));
        Check.due("12001 signs", x.write(), LazyForge.NONE);
        Check.due("OUT stays", x.about(4), 12000);
    }

    /** So many numbers 7 behind that place are 77, and when all are, 777, and so on. */
    private static String withDigits(StringBuilder text, int from, int digits) {
        StringBuilder longer = new StringBuilder(text);
        String number = "7";
        int at = from;
        for (int i = 0; i < digits; i++) {
            int plus = longer.indexOf(number + "+", at);
            if (plus < 0) {
                number += "7";
                plus = longer.indexOf(number + "+", from);
            }
            longer.insert(plus, "7");
            at = longer.indexOf("+", plus);
        }
        return longer.toString();
    }

    private static void letters() {
        LazyForge x = Check.forge("main = 1;");
        Check.due("nothing is written yet", x.letter(0), LazyForge.NONE);
        Check.due("write", x.write(), 10);
        Check.due("the first", x.letter(0), 'm');
        Check.due("the last", x.letter(9), 10);
        Check.due("behind", x.letter(10), LazyForge.NONE);
        Check.due("far behind", x.letter(Integer.MAX_VALUE), LazyForge.NONE);
        Check.refuses("below", IndexOutOfBoundsException.class, () -> x.letter(-1));
        Check.program(x, "main = ");
        Check.refuses("without a program", IllegalStateException.class, () -> x.write());
        Check.due("OUT stays", x.letter(0), 'm');
    }
}
