/**
 * Short programs with long written texts, so that a text of 3000 signs and an OUT of 12000 are come by within an
 * object's 512 calls: each lambda (three signs) is written as a function with five free variables.
 */
final class Wide {
    private static final int DEPTH_MOST = 29;
    private static final int NUMBERS = 10;

    private final int lambdas;
    private final int digits;

    private Wide(int lambdas, int digits) {
        this.lambdas = lambdas;
        this.digits = digits;
    }

    /** A program whose written text has so many signs, 300 at least. */
    static Wide of(int signs) {
        for (int lambdas = 1; lambdas < 280; lambdas++) {
            int missing = signs - new Wide(lambdas, NUMBERS).due().length();
            if (missing >= 0 && missing <= 9 * NUMBERS) {
                return new Wide(lambdas, NUMBERS + missing);
            }
        }
        throw new IllegalStateException("no program has a text of " + signs + " signs");
    }

    private int groups() {
        return (lambdas + DEPTH_MOST - 1) / DEPTH_MOST;
    }

    private int depth(int group) {
        return Math.min(DEPTH_MOST, lambdas - group * DEPTH_MOST);
    }

    /** Number i of those that are added up; together they have the digits. */
    private String number(int i) {
        return "7".repeat(digits / NUMBERS + (i < digits % NUMBERS ? 1 : 0));
    }

    String source() {
        StringBuilder text = new StringBuilder("main=1;p=").append(number(0));
        for (int i = 1; i < NUMBERS; i++) {
            text.append("+").append(number(i));
        }
        text.append(";");
        for (int group = 0; group < groups(); group++) {
            text.append("g").append(group).append(" a b c d e=").append("\\x.".repeat(depth(group))).append("a b c d e;");
        }
        return text.toString();
    }

    /** What is due as the text written. */
    String due() {
        StringBuilder text = new StringBuilder("main = 1;\nf1 = ").append("(".repeat(NUMBERS - 1)).append(number(0));
        for (int i = 1; i < NUMBERS; i++) {
            text.append(" + ").append(number(i)).append(")");
        }
        text.append(";\n");
        int lifted = 2 + groups();
        for (int group = 0; group < groups(); group++) {
            text.append("f").append(2 + group).append(" v0 v1 v2 v3 v4 = (f");
            text.append(lifted).append(" v0 v1 v2 v3 v4);\n");
            lifted += depth(group);
        }
        lifted = 2 + groups();
        for (int group = 0; group < groups(); group++) {
            for (int i = 1; i <= depth(group); i++) {
                text.append("f").append(lifted).append(" v0 v1 v2 v3 v4 v5 = (");
                lifted++;
                text.append(i < depth(group) ? "f" + lifted + " " : "").append("v0 v1 v2 v3 v4);\n");
            }
        }
        return text.toString();
    }
}
