import java.lang.reflect.Constructor;
import java.lang.reflect.Field;
import java.lang.reflect.Member;
import java.lang.reflect.Method;
import java.lang.reflect.Modifier;
import java.util.ArrayList;
import java.util.HashSet;
import java.util.List;
import java.util.Set;
import java.util.TreeSet;

/** The public face is the document's, whole, and nothing else of the class can be seen from outside. */
public final class FaceTest {
    private static final String[] METHODS = {
        "int slot(int) State Argument",
        "void over(int,int,int,int,int) Index Argument",
        "int most(int) Index",
        "int odds(int,int,int) Index Argument",
        "int sell(int,int,int) Index State Argument",
        "int back(int) Index",
        "int waits(int,int,int) Index State Argument",
        "int given(int) Index",
        "int unit(int) State Argument",
        "int rules()",
        "int price(int) Index",
        "int about(int,int) Index",
        "int code(int,int) Index",
        "int whose(int)",
        "int read(int,int,int) Index Argument",
        "int join()",
        "int twice(int,int) Index",
        "boolean leaves(int,int) Index Argument",
        "int inside(int) Argument",
        "int count(int) Index",
    };

    private static int wrong = 0;

    private static void due(boolean holds, String what) {
        if (!holds) {
            wrong++;
            System.out.println(what);
        }
    }

    private static String told(Method method) {
        List<String> types = new ArrayList<>();
        for (Class<?> type : method.getParameterTypes()) {
            types.add(type.getName());
        }
        StringBuilder line = new StringBuilder();
        line.append(method.getReturnType().getName()).append(' ').append(method.getName());
        line.append('(').append(String.join(",", types)).append(')');
        for (Class<?> thrown : method.getExceptionTypes()) {
            line.append(' ').append(shortName(thrown));
        }
        return line.toString();
    }

    private static String shortName(Class<?> thrown) {
        if (thrown == IndexOutOfBoundsException.class) {
            return "Index";
        }
        if (thrown == IllegalStateException.class) {
            return "State";
        }
        return thrown == IllegalArgumentException.class ? "Argument" : thrown.getName();
    }

    private static void methods() {
        Set<String> want = new TreeSet<>(List.of(METHODS));
        Set<String> got = new TreeSet<>();
        Set<String> publicNames = new HashSet<>();
        for (Method method : SlotTickets.class.getDeclaredMethods()) {
            if (Modifier.isPublic(method.getModifiers())) {
                got.add(told(method));
                publicNames.add(method.getName());
                due(!Modifier.isStatic(method.getModifiers()), method + " is static");
            }
        }
        due(got.equals(want), "the methods are " + got + ", due are " + want);
        for (Method method : SlotTickets.class.getDeclaredMethods()) {
            if (!Modifier.isPublic(method.getModifiers())) {
                hidden(method);
                due(!publicNames.contains(method.getName()), method + " bears a public name");
            }
        }
    }

    private static void hidden(Member member) {
        due(Modifier.isPrivate(member.getModifiers()), member + " is not private");
    }

    private static void fields() throws Exception {
        for (Field field : SlotTickets.class.getDeclaredFields()) {
            if (field.getName().equals("NONE")) {
                int all = Modifier.PUBLIC | Modifier.STATIC | Modifier.FINAL;
                due(field.getModifiers() == all && field.getType() == int.class && field.getInt(null) == -1, "NONE");
            } else {
                hidden(field);
            }
        }
    }

    private static void staticFieldsAreFinal(Class<?> type) {
        for (Field field : type.getDeclaredFields()) {
            int modifiers = field.getModifiers();
            due(!Modifier.isStatic(modifiers) || Modifier.isFinal(modifiers), field + " is static but not final");
        }
    }

    public static void main(String[] args) throws Exception {
        due(SlotTickets.class.getModifiers() == (Modifier.PUBLIC | Modifier.FINAL), "the class is public and final");
        Constructor<?>[] constructors = SlotTickets.class.getDeclaredConstructors();
        due(constructors.length == 1 && constructors[0].getParameterCount() == 0
            && Modifier.isPublic(constructors[0].getModifiers()), "one public constructor without parameters");
        methods();
        fields();
        staticFieldsAreFinal(SlotTickets.class);
        for (Class<?> inner : SlotTickets.class.getDeclaredClasses()) {
            due(Modifier.isStatic(inner.getModifiers()), inner + " is not static");
            due((inner.getModifiers() & (Modifier.PUBLIC | Modifier.PROTECTED)) == 0, inner + " is open to others");
            staticFieldsAreFinal(inner);
        }
        System.out.println(wrong == 0 ? "the face is as due" : wrong + " faults of the face");
        System.exit(wrong == 0 ? 0 : 1);
    }
}
