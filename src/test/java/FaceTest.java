import java.lang.reflect.Constructor;
import java.lang.reflect.Field;
import java.lang.reflect.Method;
import java.lang.reflect.Modifier;
import java.util.Set;
import java.util.TreeSet;

/** The public face, and that no call ever throws what the document does not name. */
public final class FaceTest {
    private static final String[] METHODS = {
        "about(int)", "bit(int,int)", "called(int)", "end(int)", "fault(int)", "function(int,int)", "letter(int)",
        "needs(int,int)", "number(int)", "program()", "put(int)", "result(int)", "run(boolean,int)", "take()", "write()",
    };

    public static void main(String[] args) {
        members();
        anyCalls();
        Check.close("FaceTest");
    }

    private static void members() {
        Check.due("NONE", LazyForge.NONE, -1);
        Check.due("final", Modifier.isFinal(LazyForge.class.getModifiers()) ? 1 : 0, 1);
        Set<String> methods = new TreeSet<>();
        for (Method method : LazyForge.class.getDeclaredMethods()) {
            if (!Modifier.isPrivate(method.getModifiers())) {
                StringBuilder name = new StringBuilder(method.getName()).append("(");
                for (Class<?> type : method.getParameterTypes()) {
                    name.append(name.charAt(name.length() - 1) == '(' ? "" : ",").append(type.getName());
                }
                methods.add(name.append(")").toString());
            }
        }
        Check.due("methods", methods.toString(), new TreeSet<>(Set.of(METHODS)).toString());
        for (Field field : LazyForge.class.getDeclaredFields()) {
            if (!Modifier.isPrivate(field.getModifiers())) {
                Check.due("the one constant", field.getName(), "NONE");
            }
        }
        Constructor<?>[] constructors = LazyForge.class.getDeclaredConstructors();
        Check.due("constructors", constructors.length, 1);
        Check.due("without parameters", constructors[0].getParameterCount(), 0);
    }

    /** Calls with all kinds of numbers in all kinds of states; what comes of them but promised exceptions is a fault. */
    private static void anyCalls() {
        String[] texts = {
            "main=1;", "", "main=", "f a=\\b.a b;main=f (f 1);", "data C 2;main=let x=C 1 x in x;", "main=main 1;",
            "f x=f x;main=f 1;", "main=let x=x in x;", "((((", "data", "main=\\", "main=case 1 of {", "main=let",
        };
        int[] numbers = {0, 1, 2, 3, 5, 9, 10, 800, 801, 3000, -1, -2, Integer.MAX_VALUE, Integer.MIN_VALUE};
        int odd = 0;
        for (String first : texts) {
            for (String second : texts) {
                Forge x = new Forge();
                Check.program(x, first);
                odd += odd(() -> x.run(true, 100), "ISE");
                odd += odd(() -> x.write(), "ISE");
                Check.program(x, second);
                odd += oddCalls(x, numbers);
            }
        }
        Check.due("calls that threw what was not promised", odd, 0);
    }

    private static int oddCalls(Forge x, int[] numbers) {
        int odd = 0;
        for (int n : numbers) {
            odd += odd(() -> x.run(true, n), "ISE", "IAE", "UOE");
            odd += odd(() -> x.run(false, n), "ISE", "IAE", "UOE");
            odd += odd(() -> x.fault(n), "IAE");
            odd += odd(() -> x.letter(n), "IOOBE");
            odd += odd(() -> x.result(n), "IAE");
            odd += odd(() -> x.number(n), "IOOBE");
            odd += odd(() -> x.called(n), "ISE", "IOOBE");
            odd += odd(() -> x.about(n), "IAE");
            for (int m = -1; m < 4; m++) {
                int k = m;
                odd += odd(() -> x.function(k, n), "ISE", "IOOBE", "IAE");
                odd += odd(() -> x.needs(k, n) ? 1 : 0, "ISE", "IOOBE");
                odd += odd(() -> x.bit(k, n), "ISE", "IOOBE", "IAE");
            }
        }
        odd += odd(() -> x.write(), "ISE");
        odd += odd(() -> x.take());
        return odd;
    }

    private static int odd(Check.Call call, String... promised) {
        try {
            call.answer();
            return 0;
        } catch (RuntimeException e) {
            String name = e.getClass().getSimpleName().replaceAll("[a-z]", "");
            for (String one : promised) {
                if (one.equals(name)) {
                    return 0;
                }
            }
            System.out.println("not promised: " + e);
            return 1;
        }
    }
}
