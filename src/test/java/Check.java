/** What the tests share: due answers, texts put sign by sign, and calls that must throw. */
final class Check {
    private static int wrong = 0;
    private static int asked = 0;

    private Check() {
    }

    /** A call that may throw. */
    interface Call {
        long answer();
    }

    static void due(String what, long got, long want) {
        asked++;
        if (got != want) {
            wrong++;
            System.out.println(what + " answered " + got + ", due is " + want);
        }
    }

    static void due(String what, String got, String want) {
        asked++;
        if (!got.equals(want)) {
            wrong++;
            System.out.println(what + " answered\n" + got + "\ndue is\n" + want);
        }
    }

    static void refuses(String what, Class<? extends RuntimeException> wanted, Call call) {
        asked++;
        String got = "nothing";
        try {
            call.answer();
        } catch (RuntimeException e) {
            got = e.getClass().getSimpleName();
        }
        if (!got.equals(wanted.getSimpleName())) {
            wrong++;
            System.out.println(what + " threw " + got + ", due is " + wanted.getSimpleName());
        }
    }

    /** THE TEXT becomes this one. */
    static void text(LazyForge x, String text) {
        x.end(0);
        for (int i = 0; i < text.length(); i += 4) {
            int signs = 0;
            for (int k = 0; k < 4 && i + k < text.length(); k++) {
                signs |= text.charAt(i + k) << (8 * k);
            }
            x.put(signs);
        }
    }

    static int program(LazyForge x, String text) {
        text(x, text);
        return x.program();
    }

    static LazyForge forge(String text) {
        LazyForge x = new LazyForge();
        int functions = program(x, text);
        if (functions == LazyForge.NONE) {
            due("the fault's kind (at " + x.fault(1) + ") of " + text, x.fault(0), 0);
        }
        return x;
    }

    /** The fault of a text, as kind and place. */
    static void fault(String what, String text, int kind, int place) {
        LazyForge x = new LazyForge();
        int answer = program(x, text);
        due(what + ": program()", answer == LazyForge.NONE ? 1 : 0, kind == 0 ? 0 : 1);
        due(what + ": kind", x.fault(0), kind);
        due(what + ": place", x.fault(1), place);
    }

    static String out(LazyForge x) {
        StringBuilder signs = new StringBuilder();
        for (int k = 0; x.letter(k) != LazyForge.NONE; k++) {
            signs.append((char) x.letter(k));
        }
        return signs.toString();
    }

    static String written(LazyForge x) {
        int signs = x.write();
        String text = out(x);
        due("signs written", signs, text.length());
        return text;
    }

    static String row(LazyForge x) {
        StringBuilder numbers = new StringBuilder();
        for (int i = 0; i < x.result(9); i++) {
            numbers.append(i == 0 ? "" : " ").append(x.number(i));
        }
        return numbers.toString();
    }

    /** Results 0 to 9 of the latest run. */
    static String results(LazyForge x) {
        StringBuilder numbers = new StringBuilder();
        for (int i = 0; i < 10; i++) {
            numbers.append(i == 0 ? "" : " ").append(x.result(i));
        }
        return numbers.toString();
    }

    static String repeat(String part, int times) {
        return part.repeat(Math.max(0, times));
    }

    static void close(String name) {
        System.out.println(name + ": " + asked + " asked, " + wrong + " wrong");
        if (wrong != 0) {
            System.exit(1);
        }
    }
}
