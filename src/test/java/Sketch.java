import java.util.ArrayList;
import java.util.LinkedHashSet;
import java.util.List;
import java.util.Random;
import java.util.Set;

/** Draws small programs without faults; of one seed it is always the same one. */
final class Sketch {
    static final String DATA = "data N 0|C 2|P 1;";
    static final List<String> CONSTRUCTORS = List.of("False", "True", "N", "C", "P");
    private static final int[] FIELDS = {0, 0, 0, 2, 1};
    private static final List<String> FUNCTIONS = List.of("main", "fa", "fb");
    private static final List<String> SIGNS = List.of("+", "-", "*", "/", "%", "==", "<", "<=");

    private final Random random;
    private final List<String> known = new ArrayList<>();
    private int left;

    private Sketch(long seed) {
        random = new Random(seed);
    }

    /** Function number i has i parameters. */
    static List<Source.Function> of(long seed) {
        Sketch sketch = new Sketch(seed);
        List<Source.Function> functions = new ArrayList<>();
        for (int f = 0; f < FUNCTIONS.size(); f++) {
            sketch.left = 14;
            List<String> parameters = sketch.names(f);
            Source.Part body = sketch.within(parameters, 5);
            functions.add(new Source.Function(FUNCTIONS.get(f), parameters, body));
        }
        return functions;
    }

    private List<String> names(int many) {
        Set<String> names = new LinkedHashSet<>();
        while (names.size() < many) {
            names.add(String.valueOf((char) ('a' + random.nextInt(6))));
        }
        return List.copyOf(names);
    }

    private Source.Part within(List<String> names, int depth) {
        int before = known.size();
        known.addAll(names);
        Source.Part part = part(depth);
        known.subList(before, known.size()).clear();
        return part;
    }

    private Source.Part part(int depth) {
        left--;
        if (depth <= 0 || left < 0) {
            return leaf();
        }
        switch (random.nextInt(12)) {
            case 0:
            case 1:
                return let(depth - 1);
            case 2:
                List<String> parameters = names(1 + random.nextInt(2));
                return new Source.Lambda(parameters, within(parameters, depth - 1));
            case 3:
            case 4:
                return choice(depth - 1);
            case 5:
            case 6:
                String sign = SIGNS.get(random.nextInt(SIGNS.size()));
                return new Source.Operation(sign, part(depth - 1), part(depth - 1));
            case 7:
                int constructor = random.nextInt(FIELDS.length);
                return new Source.Build(CONSTRUCTORS.get(constructor), parts(FIELDS[constructor], depth - 1));
            case 8:
            case 9:
                int f = 1 + random.nextInt(2);
                int many = random.nextInt(3) > 0 ? f : 1 + random.nextInt(3);
                return new Source.Apply(new Source.Name(FUNCTIONS.get(f)), parts(many, depth - 1));
            case 10:
                return new Source.Apply(part(depth - 1), parts(1 + random.nextInt(2), depth - 1));
            default:
                return leaf();
        }
    }

    private List<Source.Part> parts(int many, int depth) {
        List<Source.Part> parts = new ArrayList<>();
        for (int i = 0; i < many; i++) {
            parts.add(part(depth));
        }
        return parts;
    }

    private Source.Part let(int depth) {
        List<String> names = names(1 + random.nextInt(2));
        int before = known.size();
        known.addAll(names);
        List<Source.Binding> bindings = new ArrayList<>();
        for (String name : names) {
            List<String> parameters = names(random.nextInt(2));
            bindings.add(new Source.Binding(name, parameters, within(parameters, depth)));
        }
        Source.Part body = part(depth);
        known.subList(before, known.size()).clear();
        return new Source.Let(bindings, body);
    }

    private Source.Part choice(int depth) {
        Source.Part asked = part(depth);
        List<Source.Alternative> alternatives = new ArrayList<>();
        for (int i = random.nextInt(2); i >= 0; i--) {
            int constructor = random.nextInt(FIELDS.length);
            List<String> names = names(FIELDS[constructor]);
            alternatives.add(new Source.Alternative(CONSTRUCTORS.get(constructor), names, within(names, depth)));
        }
        alternatives.add(new Source.Alternative(random.nextInt(3) == 0 ? "1" : "_", List.of(), part(depth)));
        return new Source.Case(asked, alternatives);
    }

    private Source.Part leaf() {
        int which = random.nextInt(16);
        if (which < 9 && !known.isEmpty()) {
            return new Source.Name(known.get(random.nextInt(known.size())));
        }
        if (which == 9) {
            return new Source.Name(FUNCTIONS.get(random.nextInt(FUNCTIONS.size())));
        }
        return which == 10 ? new Source.Fail() : new Source.Number(random.nextInt(4));
    }
}
