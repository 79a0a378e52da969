import java.lang.reflect.Constructor;
import java.lang.reflect.Field;
import java.lang.reflect.Method;
import java.lang.reflect.Modifier;
import java.util.Set;
import java.util.TreeSet;

/** The public face is the document's, and nothing else of the class can be seen. */
public final class FaceTest {
    private static final String[] METHODS = {
        "int feed(int,int,int,int,int)", "boolean end(int)", "int read() Argument", "int fault()",
        "int name(boolean,int,int) Index", "int element(int,int) Index Element", "int attempt(int,int,int) Index Element",
        "int grade(int,int,int) Index", "int mean(int,int) Index", "int mark(int,int,int) Index",
        "int component(int,int) Index", "int total(int,int) Index Element", "int rule(int,int) Index Element",
        "int rank(int) Index", "int ranked(int)", "int tell(int,int,int,int) Index Argument",
        "int show(int,int,int,int) Index Argument", "boolean call(int,int,int,boolean) Index Argument",
        "int base(int,int) Index Argument", "int set(int,int) Element Argument", "int scratch(int,int) Index",
        "int undo()", "int bias(int) Index", "int odd()", "int without(int,int) Index State", "int sways(int) Index State",
        "int alone(int,int) Index", "int place(int,int) Index", "int majority(int) Index", "int major(int)",
        "int panel(int,int) Argument", "int by(int,int) Index Argument", "int firsts(int,int) Index Argument",
        "int needed(int,int) Index Argument", "int raise(int,int,int) Index State", "int prime(int,int) Index Argument",
        "int led(int) Argument", "int doubt(int) Index", "int clean(int) Index", "int write(int) Index", "int octet(int)",
        "int count(int)",
    };
    private static final int CLASSES_MOST = 12;
    private static final int FIELDS_MOST = 20;

    public static void main(String[] args) {
        face();
        insides();
        Check.due("NONE", -1, () -> IceJudge.NONE);
        Check.finish();
    }

    private static void face() {
        Set<String> want = new TreeSet<>(Set.of(METHODS));
        Set<String> got = new TreeSet<>();
        for (Method method : IceJudge.class.getDeclaredMethods()) {
            if (!Modifier.isPrivate(method.getModifiers())) {
                got.add(method.getReturnType() + " " + method.getName() + parameters(method) + exceptions(method));
            }
        }
        if (!want.equals(got)) {
            Check.report("the methods are " + got + ", due are " + want);
        }
        for (Field field : IceJudge.class.getDeclaredFields()) {
            boolean none = field.getName().equals("NONE");
            if (!none && !Modifier.isPrivate(field.getModifiers())) {
                Check.report("the field " + field.getName() + " can be seen");
            }
        }
        Constructor<?>[] constructors = IceJudge.class.getDeclaredConstructors();
        if (constructors.length != 1 || !Modifier.isPublic(constructors[0].getModifiers())
                || constructors[0].getParameterCount() != 0) {
            Check.report("there is not just the one public constructor");
        }
        int modifiers = IceJudge.class.getModifiers();
        if (!Modifier.isPublic(modifiers) || !Modifier.isFinal(modifiers)) {
            Check.report("the class is not public and final");
        }
    }

    /** LANGUAGE.md, rules 1, 2, 5 and 11, as far as the compiled classes show them. */
    private static void insides() {
        Class<?>[] inside = IceJudge.class.getDeclaredClasses();
        if (inside.length + 1 > CLASSES_MOST) {
            Check.report("there are " + (inside.length + 1) + " classes");
        }
        privateNames(IceJudge.class);
        fields(IceJudge.class);
        for (Class<?> type : inside) {
            int modifiers = type.getModifiers();
            if (Modifier.isPublic(modifiers) || Modifier.isProtected(modifiers) || !Modifier.isStatic(modifiers)) {
                Check.report(type + " is not static and out of sight");
            }
            privateNames(type);
            fields(type);
        }
    }

    private static void privateNames(Class<?> type) {
        for (Method method : type.getDeclaredMethods()) {
            for (String face : METHODS) {
                if (!Modifier.isPublic(method.getModifiers()) && face.contains(" " + method.getName() + "(")) {
                    Check.report(type + " has a method with the name " + method.getName() + " of a public one");
                }
            }
        }
    }

    private static void fields(Class<?> type) {
        int own = 0;
        for (Field field : type.getDeclaredFields()) {
            boolean constant = Modifier.isStatic(field.getModifiers());
            own += constant ? 0 : 1;
            if (constant && !Modifier.isFinal(field.getModifiers())) {
                Check.report(type + " has a static field that is not final: " + field.getName());
            }
        }
        if (own > FIELDS_MOST) {
            Check.report(type + " has " + own + " fields");
        }
    }

    private static String exceptions(Method method) {
        StringBuilder text = new StringBuilder();
        for (Class<?> type : method.getExceptionTypes()) {
            String name = type.getSimpleName();
            text.append(name.equals("IllegalArgumentException") ? " Argument" : name.equals("IndexOutOfBoundsException") ? " Index"
                    : name.equals("NoSuchElementException") ? " Element" : name.equals("IllegalStateException") ? " State" : " " + name);
        }
        return text.toString();
    }

    private static String parameters(Method method) {
        StringBuilder text = new StringBuilder("(");
        for (Class<?> type : method.getParameterTypes()) {
            text.append(text.length() > 1 ? "," : "").append(type);
        }
        return text.append(")").toString();
    }
}
