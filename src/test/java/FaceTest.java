import java.lang.reflect.Constructor;
import java.lang.reflect.Field;
import java.lang.reflect.Method;
import java.lang.reflect.Modifier;
import java.util.Set;
import java.util.TreeSet;

/** The public face is the document's, and nothing else of the class can be seen (LANGUAGE.md, 1 and 5). */
final class FaceTest {
    private static final String[] FACE = {
        "int make(int,int)", "int token(int,boolean)", "int put(int,int,long)", "int hang(int,int,int)",
        "int kind(int)", "int length(int)", "long number(int,int)", "int below(int,int)", "int is(int,int)",
        "int as(int,int)", "long weight(int)", "int depth(int)", "int equal(int,int)", "int order(int,int)",
        "int sort(int)", "int copy(int,int)", "int ring(int)", "int status()", "int count()",
    };

    public static void main(String[] args) {
        Set<String> due = new TreeSet<>(Set.of(FACE));
        Set<String> names = new TreeSet<>();
        for (String line : FACE) {
            names.add(line.substring(line.indexOf(' ') + 1, line.indexOf('(')));
        }
        Set<String> seen = new TreeSet<>();
        for (Method method : NestShelf.class.getDeclaredMethods()) {
            if (Modifier.isPrivate(method.getModifiers())) {
                Due.holds("no private " + method.getName(), !names.contains(method.getName()));
            } else {
                seen.add(signature(method));
                Due.holds(method + " is public and of the object", method.getModifiers() == Modifier.PUBLIC);
            }
        }
        Due.holds("the methods are " + due + " but found " + seen, due.equals(seen));
        for (Field field : NestShelf.class.getDeclaredFields()) {
            Due.holds(field + " is private", Modifier.isPrivate(field.getModifiers()));
            boolean fixed = !Modifier.isStatic(field.getModifiers()) || Modifier.isFinal(field.getModifiers());
            Due.holds(field + " is no changing static field", fixed);
        }
        Constructor<?>[] constructors = NestShelf.class.getDeclaredConstructors();
        Due.is("constructors", constructors.length, 1);
        Due.is("parameters of the constructor", constructors[0].getParameterCount(), 0);
        Due.holds("public constructor", constructors[0].getModifiers() == Modifier.PUBLIC);
        Due.holds("public final class", NestShelf.class.getModifiers() == (Modifier.PUBLIC | Modifier.FINAL));
        for (Class<?> inside : NestShelf.class.getDeclaredClasses()) {
            Due.holds(inside + " is not public", !Modifier.isPublic(inside.getModifiers()));
        }
        Due.end();
    }

    private static String signature(Method method) {
        StringBuilder text = new StringBuilder(method.getReturnType().getName());
        text.append(' ').append(method.getName()).append('(');
        String comma = "";
        for (Class<?> type : method.getParameterTypes()) {
            text.append(comma).append(type.getName());
            comma = ",";
        }
        return text.append(')').toString();
    }
}
