/** What the tests share: due answers, texts put sign by sign, and calls that must throw. */
final class Check {
    private static int wrong = 0;
    private static int asked = 0;

    private Check() {
    }

    /** A call that may throw. */
    interface Call {
        long answer();
    }

    static void due(String what, long got, long want) {
        asked++;
        if (got != want) {
            wrong++;
            System.out.println(what + " answered " + got + ", due is " + want);
        }
    }

    static void due(String what, String got, String want) {
        asked++;
        if (!got.equals(want)) {
            wrong++;
            System.out.println(what + " answered\n" + got + "\ndue is\n" + want);
        }
    }

    static void refuses(String what, Class<? extends RuntimeException> wanted, Call call) {
        asked++;
        String got = "nothing";
        try {
            call.answer();
        } catch (RuntimeException e) {
            got = e.getClass().getSimpleName();
        }
        if (!got.equals(wanted.getSimpleName())) {
            wrong++;
            System.out.println(what + " threw " + got + ", due is " + wanted.getSimpleName());
        }
    }

    /** The tests ask for nothing behind an object's 512th call. */
    static void tooManyCalls() {
        wrong++;
        for (StackTraceElement open : new Throwable().getStackTrace()) {
            if (open.getFileName() != null && open.getFileName().endsWith("Test.java")) {
                System.out.println("the 513th call of an object: " + open);
                return;
            }
        }
    }

    /** THE TEXT becomes this one. */
    static void text(Forge x, String text) {
        x.end(0);
        for (int i = 0; i < text.length(); i += 4) {
            int signs = 0;
            for (int k = 0; k < 4 && i + k < text.length(); k++) {
                signs |= text.charAt(i + k) << (8 * k);
            }
            x.put(signs);
        }
    }

    /** A new object with a text. */
    static Forge texted(String text) {
        Forge x = new Forge();
        text(x, text);
        return x;
    }

    static int program(Forge x, String text) {
        text(x, text);
        return x.program();
    }

    static Forge forge(String text) {
        Forge x = new Forge();
        int functions = program(x, text);
        if (functions == LazyForge.NONE) {
            due("the fault's kind (at " + x.fault(1) + ") of " + text, x.fault(0), 0);
        }
        return x;
    }

    /** The fault of a text, as kind and place. */
    static void fault(String what, String text, int kind, int place) {
        Forge x = new Forge();
        int answer = program(x, text);
        due(what + ": program() is NONE", answer == LazyForge.NONE ? 1 : 0, kind == 0 ? 0 : 1);
        due(what + ": kind", x.fault(0), kind);
        due(what + ": place", x.fault(1), place);
    }

    /** The fault of a text, whose place is at the sign @, which is left out; there is no fault if there is none. */
    static void marked(String what, String text, int kind) {
        int at = text.indexOf('@');
        fault(what, at < 0 ? text : text.substring(0, at) + text.substring(at + 1), at < 0 ? 0 : kind, at);
    }

    static void fine(String what, String text) {
        marked(what, text, 0);
    }

    static String out(Forge x) {
        StringBuilder signs = new StringBuilder();
        int sign = x.letter(0);
        while (sign != LazyForge.NONE) {
            signs.append((char) sign);
            sign = x.letter(signs.length());
        }
        return signs.toString();
    }

    static String written(Forge x) {
        int signs = x.write();
        String text = out(x);
        due("signs written", signs, text.length());
        return text;
    }

    static String row(Forge x) {
        StringBuilder numbers = new StringBuilder();
        for (int i = 0; i < x.result(9); i++) {
            numbers.append(i == 0 ? "" : " ").append(x.number(i));
        }
        return numbers.toString();
    }

    /** Results 0 to 9 of the latest run. */
    static String results(Forge x) {
        StringBuilder numbers = new StringBuilder();
        for (int i = 0; i < 10; i++) {
            numbers.append(i == 0 ? "" : " ").append(x.result(i));
        }
        return numbers.toString();
    }

    /** Functions with so many parts, 41 in one at most; main is still to come. */
    static String parts(int many) {
        StringBuilder text = new StringBuilder();
        int left = many;
        for (int f = 0; left > 0; f++) {
            int here = Math.min(left, 41) - (Math.min(left, 41) + 1) % 2;
            text.append("g").append(f).append("=1").append("+1".repeat(here / 2)).append(";");
            left -= here;
        }
        return text.toString();
    }

    static void close(String name) {
        System.out.println(name + ": " + asked + " asked, " + wrong + " wrong");
        if (wrong != 0) {
            System.exit(1);
        }
    }
}
