/**
 * Programs of 27 functions and 597 parts whose written texts, of 2500 to 3100 signs, are programs again: main adds
 * up 26 numbers, and functions a to z two numbers and nine times z (one sign, which is written with three).
 */
final class Sums {
    static final int FUNCTIONS = 27;
    static final int PARTS = 51 + 26 * 21;

    private static final int NUMBERS = 26 + 52;

    private final int digits;
    private int next;

    private Sums(int digits) {
        this.digits = digits;
    }

    /** The program whose written text has so many signs. */
    static Sums of(int signs) {
        int missing = signs - new Sums(NUMBERS).due().length();
        if (missing < 0 || missing > 9 * NUMBERS) {
            throw new IllegalStateException("no program has a text of " + signs + " signs");
        }
        return new Sums(NUMBERS + missing);
    }

    /** The next number; together they have the digits. */
    private String number() {
        int i = next;
        next++;
        return "1".repeat(digits / NUMBERS + (i < digits % NUMBERS ? 1 : 0));
    }

    String source() {
        next = 0;
        StringBuilder text = new StringBuilder("main=").append(number());
        for (int i = 1; i < 26; i++) {
            text.append("+").append(number());
        }
        text.append(";");
        for (char f = 'a'; f <= 'z'; f++) {
            text.append(f).append("=").append(number()).append("+").append(number()).append("+z".repeat(9)).append(";");
        }
        return text.toString();
    }

    /** What is due as the text written. */
    String due() {
        next = 0;
        StringBuilder text = new StringBuilder("main = ").append("(".repeat(25)).append(number());
        for (int i = 1; i < 26; i++) {
            text.append(" + ").append(number()).append(")");
        }
        text.append(";\n");
        for (int f = 1; f <= 26; f++) {
            text.append("f").append(f).append(" = ").append("(".repeat(10)).append(number());
            text.append(" + ").append(number()).append(")").append(" + f26)".repeat(9)).append(";\n");
        }
        return text.toString();
    }
}
