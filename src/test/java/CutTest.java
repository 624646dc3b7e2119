/** Promises 12 to 16 at their bounds, with Terms 4: 800 calls, 4000 cells, 1000 numbers, 150000 calls or cells in all. */
public final class CutTest {
    public static void main(String[] args) {
        callsOfRun();
        noCalls();
        allCalls();
        callsOfEachKind();
        cutCallsLeaveTheirArguments();
        cellsOfObjects();
        cellsOfParts();
        cellsOfExtendedParts();
        cellsOfSuspensions();
        cellsOfFieldsBehindTheirObject();
        cellsOfBindings();
        cutsEndRuns();
        cellsOfFunctionsWithout();
        rowOfInts();
        rowOfConstructors();
        rowOfFunctions();
        rowIsWorkedOutFirst();
        rowAsFarAsItCame();
        totalOfCalls();
        totalOfCells();
        totalOfCellsPassed();
        totalOfSomePrograms();
        Check.close("CutTest");
    }

    private static void callsOfRun() {
        Forge x = Check.forge("main = 1;");
        for (int calls : new int[] {-1, 801, Integer.MIN_VALUE, Integer.MAX_VALUE}) {
            Check.refuses("lazy, calls " + calls, IllegalArgumentException.class, () -> x.run(false, calls));
            Check.refuses("eager, calls " + calls, IllegalArgumentException.class, () -> x.run(true, calls));
            Check.due("nothing was run", Check.results(x), "0 0 0 0 0 0 0 0 0 0");
        }
        Check.due("calls 0", x.run(false, 0), 1);
        Check.due("calls 800", x.run(true, 800), 1);
        Check.due("calls 1", x.run(false, 1), 1);
    }

    private static void noCalls() {
        Forge x = Check.forge("f a = a; main = f 1;");
        for (boolean eager : new boolean[] {false, true}) {
            Check.due("a CUT", x.run(eager, 0), 3);
            Check.due("all of it", Check.results(x), eager ? "3 1 0 1 1 0 0 0 1 0" : "3 1 0 1 1 0 0 0 0 0");
            Check.due("f was not called", x.called(0), 0);
            Check.due("one is enough", x.run(eager, 1), 1);
            Check.due("f was called", x.called(0), 1);
        }
        Forge y = Check.forge("data P 2; k = P 1 2; main = case k of {P a b -> let c = a + b in c * c};");
        Check.due("what calls nothing needs no calls", y.run(false, 0), 1);
        Check.due("and counts none", y.result(2), 0);
    }

    /** 800 calls, and 801: k is called once more than the number says. */
    private static void allCalls() {
        for (boolean eager : new boolean[] {false, true}) {
            Forge x = Check.forge("k n = case n of {0 -> 7; _ -> k (n - 1)}; main = k 799;");
            Check.due("800 calls", x.run(eager, 800), 1);
            Check.due("are counted", x.result(2), 800);
            Check.due("of k", x.called(0), 800);
            Check.due("799 are too few", x.run(eager, 799), 3);
            Check.due("so they say", x.result(1), 1);
            Check.due("799 were made", x.result(2), 799);
            Check.due("no number came", x.result(9), 0);
            Forge y = Check.forge("k n = case n of {0 -> 7; _ -> k (n - 1)}; main = k 800;");
            Check.due("801 calls", y.run(eager, 800), 3);
            Check.due("are too many", y.result(1), 1);
            Check.due("800 were made", y.result(2), 800);
            Check.due("by k", y.called(0), 800);
        }
    }

    private static void needsCalls(String what, String text, int calls) {
        Forge x = Check.forge(text);
        Check.due(what + ": enough", x.run(false, calls), 1);
        Check.due(what + ": that many", x.result(2), calls);
        Check.due(what + ": one too few", x.run(false, calls - 1), 3);
        Check.due(what + ": CUT", x.result(1), 1);
        Check.due(what + ": one less was made", x.result(2), calls - 1);
    }

    private static void callsOfEachKind() {
        needsCalls("a function", "f a = a; main = f 1;", 1);
        needsCalls("a function in a variable", "f a = a; g h = h 1; main = g f;", 2);
        needsCalls("a part of a call", "f a b = a; g h = h 1; main = g (f 2);", 2);
        needsCalls("what a call gives", "f a = f; main = f 1 2 3 4 5;", 5);
        needsCalls("a lambda", "main = (\\ x . x) 1;", 1);
        needsCalls("a lambda with free ones", "main = let k = 1 in (\\ x . k) 1;", 1);
        needsCalls("in a suspension", "f a = a; main = let x = f 1 in x + x;", 1);
        needsCalls("in a field", "data O 1; f a = a; main = O (f 1);", 1);
        needsCalls("a function without parameters is not called", "f a = a; k = f 1; main = k + k;", 1);
    }

    private static void cutCallsLeaveTheirArguments() {
        Forge x = Check.forge("f a b = a; main = f (1 + 1) (2 + 2);");
        x.run(false, 0);
        Check.due("arguments are kept first", Check.results(x), "3 1 0 3 3 0 0 0 0 0");
        x.run(true, 0);
        Check.due("or worked out", Check.results(x), "3 1 0 2 2 0 0 0 1 0");
        Forge y = Check.forge("f a = a; main = (case 1 of {_ -> f}) (1 + 1);");
        y.run(false, 0);
        Check.due("of another part applied, too", Check.results(y), "3 1 0 2 2 0 0 0 0 0");
        Forge z = Check.forge("data P 2; f a = a; main = P 5 (f 1);");
        z.run(false, 0);
        Check.due("the row as far as it came", Check.results(z), "3 1 0 5 2 0 1 1 0 4");
        Check.due("that is", Check.row(z), "2 2 1 5");
    }

    private static final String DATA = "data T 4 | O 1 | P 2; g a b c d e = 8; c x = 7; h p q r = O (p + q * r - p);";

    /** A lazy round makes a SUSPENSION more, with n in it. Some calls are left for what comes behind the rounds. */
    private static int rounds(boolean eager, int free) {
        return Math.min(796, (3999 - free) / (eager ? 5 : 7));
    }

    private static int pads(boolean eager, int free) {
        return 3999 - free - (eager ? 5 : 7) * rounds(eager, free);
    }

    /** A program that has so many cells left of 4000 when it comes to that E, in which n is 0. */
    private static Forge filled(boolean eager, int free, String e) {
        StringBuilder text = new StringBuilder(DATA);
        text.append("k n = case n of {0 -> ").append(e).append("; _ -> case T n n n n of {_ -> k (n - 1)}}; main = k ");
        text.append(rounds(eager, free)).append(";");
        for (int pad = pads(eager, free); pad > 0; pad--) {
            text.append("p").append(pad).append(" = 1;");
        }
        return Check.forge(text.toString());
    }

    /** That E needs so many cells; came tells what came with one cell less: cells, SUSPENSIONS, PARTS, OBJECTS. */
    private static void needsCells(String e, int cells, String came) {
        for (boolean eager : new boolean[] {false, true}) {
            Forge zero = filled(eager, 20, "7");
            zero.run(eager, 800);
            Check.due("20 cells are left", zero.result(3), 3980);
            Forge x = filled(eager, cells, e);
            Check.due(cells + " cells for " + e, x.run(eager, 800), 1);
            Check.due("are all of them", x.result(3), 4000);
            int rounds = rounds(eager, cells - 1);
            int pads = pads(eager, cells - 1);
            Forge y = filled(eager, cells - 1, e);
            Check.due(cells - 1 + " cells for " + e, y.run(eager, 800), 3);
            Check.due("are too few", y.result(1), 2);
            String got = (y.result(3) - (4000 - cells + 1)) + " " + (y.result(4) - 1 - pads - (eager ? 0 : rounds)) + " "
                + y.result(5) + " " + (y.result(6) - rounds);
            Check.due("what came for " + e, got, came);
            Check.due("no number came", y.result(9), 0);
        }
    }

    private static void cellsOfObjects() {
        needsCells("O n", 2, "0 0 0 0");
        needsCells("O 1", 2, "0 0 0 0");
        needsCells("P n True", 3, "0 0 0 0");
        needsCells("T n c n n", 5, "0 0 0 0");
        needsCells("O (O (O n))", 6, "4 0 0 2");
        needsCells("P (O n) (O n)", 7, "5 0 0 2");
        needsCells("case O n of {O a -> a}", 2, "0 0 0 0");
    }

    private static void cellsOfParts() {
        needsCells("g n", 3, "0 0 0 0");
        needsCells("g n n", 4, "0 0 0 0");
        needsCells("g n n n n", 6, "0 0 0 0");
        needsCells("O (g n)", 5, "2 0 0 1");
        needsCells("g (g n)", 6, "3 0 1 0");
        needsCells("c (g n)", 3, "0 0 0 0");
    }

    private static void cellsOfExtendedParts() {
        needsCells("(g n) n", 7, "3 0 1 0");
        needsCells("(g n) n n n", 9, "3 0 1 0");
        needsCells("((g n) n) n", 12, "7 0 2 0");
        needsCells("(case n of {_ -> g}) n", 3, "0 0 0 0");
    }

    private static void cellsOfSuspensions() {
        needsCells("c (n + n)", 2, "0 0 0 0");
        needsCells("c (1 + 1)", 1, "0 0 0 0");
        needsCells("c fail", 1, "0 0 0 0");
        needsCells("c (case n of {_ -> n})", 2, "0 0 0 0");
        needsCells("c (c n)", 2, "0 0 0 0");
        needsCells("let y = n in O y", 4, "2 1 0 0");
        needsCells("let y = 1 + 1 in c y", 1, "0 0 0 0");
        needsCells("g 1 2 3 4 (n + 1)", 2, "0 0 0 0");
        needsCells("7 + (case c (n + 1) of {_ -> 1})", 2, "0 0 0 0");
    }

    private static void cellsOfFieldsBehindTheirObject() {
        needsCells("O (n + 1)", 4, "2 0 0 1");
        needsCells("P (n + 1) (n + 2)", 7, "5 1 0 1");
        needsCells("P (1 + 1) (n + 2)", 6, "4 1 0 1");
        needsCells("h 1 2 3", 6, "2 0 0 1");
        needsCells("g (n + 1)", 5, "3 0 1 0");
        needsCells("g n (n + 1) (n + 2)", 9, "7 1 1 0");
    }

    /** All of a let's BINDINGS are made ahead of what is in them. */
    private static void cellsOfBindings() {
        needsCells("let x = O (n + 1), y = O (n + 2) in 7", 8, "6 1 0 2");
        needsCells("let x = O (O 1), y = n in 7", 6, "4 1 0 1");
        needsCells("let x = g (n + 1), y = 1 + 1 in 7", 6, "4 1 1 0");
        needsCells("let x = n, y = n in 7", 4, "2 1 0 0");
        needsCells("let x = 1, y = True, z = c, u = O n in 7", 2, "0 0 0 0");
    }

    /** With so few cells the first does not fit; the second would, but nothing comes any more. */
    private static void nothingBehindTheCut(String e, int free, String came) {
        for (boolean eager : new boolean[] {false, true}) {
            int rounds = rounds(eager, free);
            Forge x = filled(eager, free, e);
            Check.due("too few cells for " + e, x.run(eager, 800), 3);
            Check.due("so it is cut", x.result(1), 2);
            String got = (x.result(3) - (4000 - free)) + " " + (x.result(4) - 1 - pads(eager, free) - (eager ? 0 : rounds)) + " "
                + x.result(5) + " " + (x.result(6) - rounds);
            Check.due("nothing behind it comes for " + e, got, came);
            Check.due("nor is anything called", x.result(2), rounds + 1);
            Check.due("nor updated", x.result(7), eager ? 0 : rounds);
        }
    }

    private static void cutsEndRuns() {
        nothingBehindTheCut("g (n + n) (1 + 1) 1 1 1", 1, "0 0 0 0");
        nothingBehindTheCut("g (O n) (1 + 1) 1 1 1", 1, "0 0 0 0");
        nothingBehindTheCut("g 1 2 (g n) (1 + 1) 1", 2, "0 0 0 0");
        nothingBehindTheCut("(case n of {_ -> g}) (n + n) (1 + 1)", 1, "0 0 0 0");
        nothingBehindTheCut("3 (n + n) (1 + 1)", 1, "0 0 0 0");
        nothingBehindTheCut("P (n + n) (1 + 1)", 4, "3 0 0 1");
        nothingBehindTheCut("P (O n) (1 + 1)", 4, "3 0 0 1");
        nothingBehindTheCut("g (n + n) (1 + 1)", 5, "4 0 1 0");
        nothingBehindTheCut("let x = O n, y = 1 + 1 in 7", 1, "0 0 0 0");
        nothingBehindTheCut("let x = P (n + n) (1 + 1), y = P (1 + 1) 1 in 7", 7, "6 0 0 2");
        nothingBehindTheCut("(g n) (1 + 1) (n + n) (1 + 1)", 2, "1 1 0 0");
        nothingBehindTheCut("O n + (case c 1 of {_ -> 1})", 1, "0 0 0 0");
    }

    private static void cellsOfFunctionsWithout() {
        StringBuilder text = new StringBuilder("main = 7;");
        for (int i = 1; i < 30; i++) {
            text.append("p").append(i).append(" = ").append(i).append(";");
        }
        Forge x = Check.forge(text.toString());
        x.run(false, 0);
        Check.due("30 functions without parameters", Check.results(x), "1 0 0 30 30 0 0 1 0 2");
        x.run(true, 0);
        Check.due("in each run", Check.results(x), "1 0 0 30 30 0 0 1 0 2");
        Forge y = Check.forge("f a = a; main = \\ x . x; g a b = a;");
        y.run(false, 0);
        Check.due("those with parameters have none", Check.results(y), "1 0 0 1 1 0 0 1 0 1");
    }

    /** Ends with so many numbers, or is cut with so many. */
    private static void numbers(String what, String text, int how, int numbers, int last) {
        for (boolean eager : new boolean[] {false, true}) {
            Forge x = Check.forge(text);
            Check.due(what + ": how", x.run(eager, 800), how);
            Check.due(what + ": CUT", x.result(1), how == 3 ? 3 : 0);
            Check.due(what + ": numbers", x.result(9), numbers);
            Check.due(what + ": the last", x.number(numbers - 1), last);
            Check.refuses(what + ": behind", IndexOutOfBoundsException.class, () -> x.number(numbers));
        }
    }

    /** So many times O (number 4) in one another, two numbers each, and in the innermost that E; P is number 5. */
    private static String chain(int rounds, String e) {
        return "data A 0 | B 0 | O 1 | P 2; z = 6; i x = x; j x y = y; f n = case n of {0 -> " + e
            + "; _ -> O (f (n - 1))}; main = f " + rounds + ";";
    }

    private static void rowOfInts() {
        numbers("998 and an INT", chain(499, "77"), 1, 1000, 77);
        numbers("1000 and an INT", chain(500, "77"), 3, 1000, 4);
        numbers("999 and an INT", chain(497, "P i (P 77 3)"), 3, 999, 5);
        numbers("999 and an INT that is worked out", chain(497, "P i (P z 3)"), 3, 999, 5);
        numbers("999 with a function and an INT", chain(495, "P i (P i (P i 77))"), 3, 999, 3);
        numbers("1000 with OBJECTS and an INT", chain(496, "P i (P i (P z z))"), 3, 1000, 5);
    }

    private static void rowOfConstructors() {
        numbers("998 and a CONSTRUCTOR", chain(499, "True"), 1, 1000, 1);
        numbers("1000 and a CONSTRUCTOR", chain(500, "True"), 3, 1000, 4);
        numbers("999 and a CONSTRUCTOR", chain(495, "P i (P i (P i True))"), 3, 999, 3);
        numbers("999 and an OBJECT", chain(495, "P i (P i (P i (O 1)))"), 3, 999, 3);
        numbers("998 and an OBJECT", chain(499, "O 1"), 3, 1000, 4);
        numbers("1000 and an OBJECT", chain(497, "P i (P i (P i i))"), 3, 1000, 3);
        numbers("without an end", "data C 2; main = let x = C 1 x in x;", 3, 1000, 1);
        numbers("without an end, three each", "data C 2; main = let x = C f x in x; f x = x;", 3, 999, 3);
        numbers("within its first field without an end", "data D 2; main = let x = D x f in x; f x = x;", 3, 1000, 2);
    }

    private static void rowOfFunctions() {
        numbers("998 and a function", chain(499, "i"), 1, 999, 3);
        numbers("999 and a function", chain(498, "P i i"), 1, 1000, 3);
        numbers("1000 and a function", chain(500, "i"), 3, 1000, 4);
        numbers("999 and a part of a call", chain(498, "P i (j 1)"), 1, 1000, 3);
        numbers("1000 and a part of a call", chain(500, "j 1"), 3, 1000, 4);
    }

    /** What does not fit into the row any more is worked out all the same. */
    private static void rowIsWorkedOutFirst() {
        Forge x = Check.forge(chain(500, "fail"));
        Check.due("a FAULT behind 1000 numbers", x.run(false, 800), 2);
        Check.due("is one", x.result(1), 5);
        Check.due("1000 came", x.result(9), 1000);
        Forge y = Check.forge(chain(500, "i (i 1)"));
        Check.due("calls behind 1000 numbers", y.run(false, 800), 3);
        Check.due("were made", y.called(1), 2);
        Check.due("then CUT 3", y.result(1), 3);
        Check.due("calls that are not there", y.run(false, 502), 3);
        Check.due("cut it first", y.result(1), 1);
    }

    private static void rowAsFarAsItCame() {
        Forge x = Check.forge("data Q 4; main = Q 1 True fail 2;");
        Check.due("a FAULT", x.run(false, 0), 2);
        Check.due("its row", Check.row(x), "2 2 1 1 2 1");
        for (int i : new int[] {-1, 6, 7, 999, 1000, Integer.MIN_VALUE, Integer.MAX_VALUE}) {
            Check.refuses("number " + i, IndexOutOfBoundsException.class, () -> x.number(i));
        }
        Check.program(x, "main = fail;");
        x.run(false, 0);
        Check.refuses("an empty row", IndexOutOfBoundsException.class, () -> x.number(0));
        Check.program(x, "main = \\ x . x;");
        x.run(false, 0);
        Check.due("a row of one", x.number(0), 3);
        Check.refuses("and no more", IndexOutOfBoundsException.class, () -> x.number(1));
    }

    private static void totalOfCalls() {
        Forge x = Check.forge("f x = f x; main = f 1;");
        for (int i = 0; i < 187; i++) {
            x.run(false, 800);
        }
        Check.due("calls so far", x.about(5), 149600);
        x.run(false, 399);
        Check.due("one call is left", x.about(5), 149999);
        Check.due("cells so far", x.about(6), 188);
        x.run(false, 1);
        Check.due("none is left", x.about(5), 150000);
        Check.due("the latest run", Check.results(x), "3 1 1 1 1 0 0 0 0 0");
        Check.refuses("150000 calls", UnsupportedOperationException.class, () -> x.run(false, 0));
        Check.refuses("eager, too", UnsupportedOperationException.class, () -> x.run(true, 800));
        Check.refuses("wrong calls come first", IllegalArgumentException.class, () -> x.run(false, 801));
        Check.refuses("less than none, too", IllegalArgumentException.class, () -> x.run(true, -1));
        Check.due("the latest run stays", Check.results(x), "3 1 1 1 1 0 0 0 0 0");
        Check.due("what it called stays", x.called(0), 1);
        Check.due("calls stay", x.about(5), 150000);
        Check.due("cells stay", x.about(6), 189);
        Check.program(x, "main = 1;");
        Check.due("calls stay behind another program", x.about(5), 150000);
        Check.refuses("that runs neither", UnsupportedOperationException.class, () -> x.run(false, 0));
        Check.due("nothing was run", x.result(0), 0);
        Check.program(x, "");
        Check.refuses("no program comes first", IllegalStateException.class, () -> x.run(false, 0));
        Check.refuses("ahead of wrong calls, too", IllegalStateException.class, () -> x.run(false, -1));
    }

    private static final String FULL = "data T 4; k n = case n of {0 -> 7; _ -> case T n n n n of {_ -> k (n - 1)}}; main = k 799;"
        + "p1 = 1; p2 = 2; p3 = 3; p4 = 4;";

    /** 37 runs of 4000 cells, and one of 1995. */
    private static Forge fiveCellsLeft() {
        Forge x = Check.forge(FULL);
        for (int i = 0; i < 37; i++) {
            x.run(true, 800);
        }
        Check.due("cells so far", x.about(6), 148000);
        x.run(true, 398);
        Check.due("five cells are left", x.about(6), 149995);
        return x;
    }

    private static void totalOfCells() {
        Forge x = fiveCellsLeft();
        Check.due("a run is left", x.run(true, 0), 3);
        Check.due("no cell is left", x.about(6), 150000);
        int calls = x.about(5);
        Check.due("calls are", calls < 150000 ? 1 : 0, 1);
        Check.refuses("150000 cells", UnsupportedOperationException.class, () -> x.run(true, 0));
        Check.refuses("lazy, too", UnsupportedOperationException.class, () -> x.run(false, 800));
        Check.refuses("wrong calls come first", IllegalArgumentException.class, () -> x.run(true, 801));
        Check.due("cells stay", x.about(6), 150000);
        Check.due("calls stay", x.about(5), calls);
        Check.due("the latest run stays", x.result(3), 5);
    }

    private static void totalOfCellsPassed() {
        Forge x = fiveCellsLeft();
        Check.program(x, "main = p1; p1 = p2; p2 = p3; p3 = 4;");
        Check.due("a run of four cells", x.run(false, 0), 1);
        Check.due("one cell is left", x.about(6), 149999);
        Check.program(x, FULL);
        Check.due("a run of 4000 cells", x.run(true, 800), 1);
        Check.due("all of it", x.result(3), 4000);
        Check.due("more than there are", x.about(6), 153999);
        Check.refuses("but that was the last", UnsupportedOperationException.class, () -> x.run(true, 0));
        Check.due("cells stay", x.about(6), 153999);
    }

    private static void totalOfSomePrograms() {
        Forge x = Check.forge("f a = a; main = f (f 1);");
        x.run(false, 800);
        Check.due("calls", x.about(5), 2);
        Check.due("cells", x.about(6), 2);
        Check.program(x, "main");
        Check.due("calls stay behind a fault", x.about(5), 2);
        Check.due("cells stay behind a fault", x.about(6), 2);
        Check.program(x, "data O 1; f a = O a; main = f (f 1);");
        x.run(false, 1);
        Check.due("calls of another program, a CUT", x.about(5), 3);
        Check.due("cells of another program, a CUT", x.about(6), 6);
        x.run(true, 800);
        Check.due("calls of both", x.about(5), 5);
        Check.due("cells of both", x.about(6), 12);
    }
}
