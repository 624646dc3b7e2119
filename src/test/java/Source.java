import java.util.List;

/** A program's parts as they stand in its text, with nothing lifted. */
final class Source {
    record Function(String name, List<String> parameters, Part body) {
    }

    record Binding(String name, List<String> parameters, Part body) {
    }

    /** A PATTERN's CONSTRUCTOR, or a NUMBER or _ , with its NAMES. */
    record Alternative(String pattern, List<String> names, Part body) {
    }

    interface Part {
    }

    record Number(int number) implements Part {
    }

    record Name(String name) implements Part {
    }

    record Fail() implements Part {
    }

    record Build(String constructor, List<Part> fields) implements Part {
    }

    record Apply(Part head, List<Part> arguments) implements Part {
    }

    record Operation(String sign, Part left, Part right) implements Part {
    }

    record Lambda(List<String> parameters, Part body) implements Part {
    }

    record Let(List<Binding> bindings, Part body) implements Part {
    }

    record Case(Part asked, List<Alternative> alternatives) implements Part {
    }

    private final StringBuilder text = new StringBuilder();

    private Source() {
    }

    static String text(String data, List<Function> functions) {
        Source source = new Source();
        source.text.append(data);
        for (Function f : functions) {
            source.define(f.name(), f.parameters(), "=", f.body());
            source.text.append(";");
        }
        return source.text.toString();
    }

    private void define(String name, List<String> parameters, String sign, Part body) {
        text.append(name);
        for (String parameter : parameters) {
            text.append(" ").append(parameter);
        }
        text.append(sign);
        write(body);
    }

    private void write(Part part) {
        if (part instanceof Let let) {
            String joint = "let ";
            for (Binding b : let.bindings()) {
                text.append(joint);
                define(b.name(), b.parameters(), "=", b.body());
                joint = ",";
            }
            text.append(" in ");
            write(let.body());
        } else if (part instanceof Lambda lambda) {
            define("\\", lambda.parameters(), ".", lambda.body());
        } else if (part instanceof Case choice) {
            text.append("case ");
            write(choice.asked());
            String joint = " of{";
            for (Alternative a : choice.alternatives()) {
                text.append(joint);
                define(a.pattern(), a.names(), "->", a.body());
                joint = ";";
            }
            text.append("}");
        } else if (part instanceof Operation operation) {
            writeAtom(operation.left());
            text.append(operation.sign());
            writeAtom(operation.right());
        } else if (part instanceof Apply apply) {
            writeAtom(apply.head());
            writeAtoms(apply.arguments());
        } else if (part instanceof Build build && !build.fields().isEmpty()) {
            text.append(build.constructor());
            writeAtoms(build.fields());
        } else {
            writeAtom(part);
        }
    }

    private void writeAtoms(List<Part> parts) {
        for (Part part : parts) {
            text.append(" ");
            writeAtom(part);
        }
    }

    private void writeAtom(Part part) {
        if (part instanceof Number number) {
            text.append(number.number());
        } else if (part instanceof Name name) {
            text.append(name.name());
        } else if (part instanceof Fail) {
            text.append("fail");
        } else if (part instanceof Build build && build.fields().isEmpty()) {
            text.append(build.constructor());
        } else {
            text.append("(");
            write(part);
            text.append(")");
        }
    }
}
