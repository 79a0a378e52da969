import java.lang.reflect.Constructor;
import java.lang.reflect.Field;
import java.lang.reflect.Method;
import java.lang.reflect.Modifier;
import java.util.Set;
import java.util.TreeSet;

/** The public face is the document's, and nothing else of the class can be seen. */
public final class FaceTest {
    private static final String[] METHODS = {
        "int feed(int,int,int,int,int)", "boolean end(int)", "int read()", "int fault()",
        "int name(boolean,int,int)", "int element(int,int)", "int attempt(int,int,int)",
        "int grade(int,int,int)", "int mean(int,int)", "int mark(int,int,int)",
        "int component(int,int)", "int total(int,int)", "int rule(int,int)", "int rank(int)",
        "int ranked(int)", "int tell(int,int,int,int)", "int show(int,int,int,int)",
        "boolean call(int,int,int,boolean)", "int base(int,int)", "int set(int,int)",
        "int scratch(int,int)", "int undo()", "int bias(int)", "int odd()",
        "int without(int,int)", "int sways(int)", "int alone(int,int)", "int place(int,int)",
        "int majority(int)", "int major(int)", "int panel(int,int)", "int by(int,int)",
        "int firsts(int,int)", "int needed(int,int)", "int raise(int,int,int)",
        "int prime(int,int)", "int led(int)", "int doubt(int)", "int clean(int)",
        "int write(int)", "int octet(int)", "int count(int)",
    };

    public static void main(String[] args) {
        Set<String> want = new TreeSet<>(Set.of(METHODS));
        Set<String> got = new TreeSet<>();
        for (Method method : IceJudge.class.getDeclaredMethods()) {
            if (!Modifier.isPrivate(method.getModifiers())) {
                got.add(method.getReturnType() + " " + method.getName() + parameters(method));
            }
        }
        if (!want.equals(got)) {
            Check.report("the methods are " + got + ", due are " + want);
        }
        for (Field field : IceJudge.class.getDeclaredFields()) {
            boolean none = field.getName().equals("NONE");
            if (!none && !Modifier.isPrivate(field.getModifiers())) {
                Check.report("the field " + field.getName() + " can be seen");
            }
        }
        Constructor<?>[] constructors = IceJudge.class.getDeclaredConstructors();
        if (constructors.length != 1 || !Modifier.isPublic(constructors[0].getModifiers())
                || constructors[0].getParameterCount() != 0) {
            Check.report("there is not just the one public constructor");
        }
        int modifiers = IceJudge.class.getModifiers();
        if (!Modifier.isPublic(modifiers) || !Modifier.isFinal(modifiers)) {
            Check.report("the class is not public and final");
        }
        Check.due("NONE", -1, () -> IceJudge.NONE);
        Check.finish();
    }

    private static String parameters(Method method) {
        StringBuilder text = new StringBuilder("(");
        for (Class<?> type : method.getParameterTypes()) {
            text.append(text.length() > 1 ? "," : "").append(type);
        }
        return text.append(")").toString();
    }
}
