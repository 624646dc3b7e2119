import java.util.ArrayList;
import java.util.HashMap;
import java.util.List;
import java.util.Map;

/**
 * A second machine, plainly lazy: it works programs out as they stand in their text, by closures, with nothing lifted
 * and without cells.
 */
final class Closures {
    /** So many of a row's numbers are told. */
    static final int SHOWN = 60;
    private static final int ROW_MOST = 1000;

    /** A FAULT (2) or CUT (3), and its number. */
    private static final class Stop extends RuntimeException {
        final int how;
        final int reason;

        Stop(int how, int reason) {
            super(null, null, false, false);
            this.how = how;
            this.reason = reason;
        }
    }

    private interface Value {
    }

    private record Int(int number) implements Value {
    }

    private record Made(int constructor, List<Later> fields) implements Value {
    }

    private record Closure(List<String> parameters, Source.Part body, Around around, List<Later> had) implements Value {
    }

    /** Names and what they are, around a part. */
    private record Around(Map<String, Later> here, Around outside) {
        Later find(String name) {
            Later found = here.get(name);
            return found == null && outside != null ? outside.find(name) : found;
        }
    }

    /** What is worked out when it is asked for, once. */
    private final class Later {
        private final Source.Part part;
        private final Around around;
        private Value value;
        private boolean black;

        Later(Source.Part part, Around around) {
            this.part = part;
            this.around = around;
        }

        Value get() {
            if (value == null) {
                if (black) {
                    throw new Stop(2, 3);
                }
                black = true;
                value = work(part, around);
            }
            return value;
        }
    }

    private final int callsMost;
    private final List<Integer> row = new ArrayList<>();
    private int calls;
    private int how = 1;
    private int reason;

    private Closures(int callsMost) {
        this.callsMost = callsMost;
    }

    /** How a run ended, by which FAULT or CUT, its calls, how many numbers its row has, and the first ones. */
    static String run(List<Source.Function> functions, int callsMost) {
        Closures run = new Closures(callsMost);
        Around tops = new Around(new HashMap<>(), null);
        for (Source.Function f : functions) {
            tops.here().put(f.name(), run.bound(f.parameters(), f.body(), tops));
        }
        try {
            run.force(tops.find("main").get());
        } catch (Stop stop) {
            run.how = stop.how;
            run.reason = stop.reason;
        }
        return run.told();
    }

    private String told() {
        StringBuilder told = new StringBuilder();
        told.append(how).append(" ").append(reason).append(" ").append(calls).append(" ").append(row.size()).append(":");
        for (int i = 0; i < row.size() && i < SHOWN; i++) {
            told.append(" ").append(row.get(i));
        }
        return told.toString();
    }

    private Later bound(List<String> parameters, Source.Part body, Around around) {
        return new Later(parameters.isEmpty() ? body : new Source.Lambda(parameters, body), around);
    }

    private List<Later> kept(List<Source.Part> parts, Around around) {
        List<Later> kept = new ArrayList<>();
        for (Source.Part part : parts) {
            kept.add(new Later(part, around));
        }
        return kept;
    }

    private Value work(Source.Part part, Around around) {
        if (part instanceof Source.Number number) {
            return new Int(number.number());
        } else if (part instanceof Source.Name name) {
            return around.find(name.name()).get();
        } else if (part instanceof Source.Build build) {
            return new Made(Sketch.CONSTRUCTORS.indexOf(build.constructor()), kept(build.fields(), around));
        } else if (part instanceof Source.Lambda lambda) {
            return new Closure(lambda.parameters(), lambda.body(), around, List.of());
        } else if (part instanceof Source.Apply apply) {
            return apply(work(apply.head(), around), kept(apply.arguments(), around));
        } else if (part instanceof Source.Operation operation) {
            return operate(operation.sign(), work(operation.left(), around), work(operation.right(), around));
        } else if (part instanceof Source.Let let) {
            Around within = new Around(new HashMap<>(), around);
            for (Source.Binding b : let.bindings()) {
                within.here().put(b.name(), bound(b.parameters(), b.body(), within));
            }
            return work(let.body(), within);
        } else if (part instanceof Source.Case choice) {
            return choose(work(choice.asked(), around), choice.alternatives(), around);
        }
        throw new Stop(2, 5);
    }

    private Value apply(Value value, List<Later> arguments) {
        if (!(value instanceof Closure closure)) {
            throw new Stop(2, 4);
        }
        List<Later> all = new ArrayList<>(closure.had());
        all.addAll(arguments);
        int wanted = closure.parameters().size();
        if (all.size() < wanted) {
            return new Closure(closure.parameters(), closure.body(), closure.around(), all);
        }
        if (calls >= callsMost) {
            throw new Stop(3, 1);
        }
        calls++;
        Around within = new Around(new HashMap<>(), closure.around());
        for (int i = 0; i < wanted; i++) {
            within.here().put(closure.parameters().get(i), all.get(i));
        }
        Value given = work(closure.body(), within);
        return all.size() == wanted ? given : apply(given, all.subList(wanted, all.size()));
    }

    private Value operate(String sign, Value left, Value right) {
        if (!(left instanceof Int x && right instanceof Int y)) {
            throw new Stop(2, 4);
        }
        int a = x.number();
        int b = y.number();
        if (b == 0 && (sign.equals("/") || sign.equals("%"))) {
            throw new Stop(2, 2);
        }
        switch (sign) {
            case "+": return new Int(a + b);
            case "-": return new Int(a - b);
            case "*": return new Int(a * b);
            case "/": return new Int(a / b);
            case "%": return new Int(a % b);
            case "==": return new Made(a == b ? 1 : 0, List.of());
            case "<": return new Made(a < b ? 1 : 0, List.of());
            default: return new Made(a <= b ? 1 : 0, List.of());
        }
    }

    private Value choose(Value value, List<Source.Alternative> alternatives, Around around) {
        for (Source.Alternative a : alternatives) {
            Around within = new Around(new HashMap<>(), around);
            if (fits(value, a, within.here())) {
                return work(a.body(), within);
            }
        }
        throw new Stop(2, 1);
    }

    private boolean fits(Value value, Source.Alternative alternative, Map<String, Later> names) {
        if (alternative.pattern().equals("_")) {
            return true;
        }
        if (value instanceof Int x) {
            return alternative.pattern().equals(String.valueOf(x.number()));
        }
        if (!(value instanceof Made made)
                || !Sketch.CONSTRUCTORS.get(made.constructor()).equals(alternative.pattern())) {
            return false;
        }
        for (int k = 0; k < alternative.names().size(); k++) {
            names.put(alternative.names().get(k), made.fields().get(k));
        }
        return true;
    }

    private void force(Value value) {
        if (value instanceof Int x) {
            show(1, x.number());
        } else if (value instanceof Made made) {
            show(2, made.constructor());
            for (Later field : made.fields()) {
                force(field.get());
            }
        } else {
            show(3);
        }
    }

    private void show(int... numbers) {
        if (row.size() + numbers.length > ROW_MOST) {
            throw new Stop(3, 3);
        }
        for (int number : numbers) {
            row.add(number);
        }
    }
}
