import java.lang.reflect.Constructor;
import java.lang.reflect.Field;
import java.lang.reflect.Member;
import java.lang.reflect.Method;
import java.lang.reflect.Modifier;
import java.util.Arrays;
import java.util.Set;
import java.util.TreeSet;

/** The face of the class, and how its classes inside are made; SourceTest looks at the source itself. */
public final class LanguageTest {
    private static final String[] FACE = {
        "int base(int)", "int table(int,int)", "int figure(long,int)", "long step(int,long)",
        "int chain(int,long,int)", "long chained(int,long,int)", "long rounds(int,int,int)", "int first(int,int,int)",
        "int tallest(int,int,int)", "int lost(int,int,int)", "int come(int,int,long,int)",
        "int makes(int,long,int,int)", "int alike(long)", "long alikes(long)", "long alikeAt(long)", "long next(long)",
        "int made(int)", "long moved(int,int,int,int)", "int few(int,int,int)", "int withAll(int,int,int)",
        "int summed(int,int,int)", "int again(int,int)", "long narrow(int,int,int)", "int bare(int,int)",
        "int raised(int,int)", "int count(int)"};

    public static void main(String[] args) {
        face();
        insides();
        Due.end("LanguageTest");
    }

    private static String told(Method method) {
        StringBuilder text = new StringBuilder(method.getReturnType() + " " + method.getName() + "(");
        for (Class<?> type : method.getParameterTypes()) {
            text.append(text.charAt(text.length() - 1) == '(' ? "" : ",").append(type);
        }
        return text.append(")").toString();
    }

    private static void face() {
        Set<String> seen = new TreeSet<>();
        for (Method method : FigurePlay.class.getDeclaredMethods()) {
            if (Modifier.isPublic(method.getModifiers())) {
                Due.holds(method + " is not static", !Modifier.isStatic(method.getModifiers()));
                seen.add(told(method));
            } else {
                isPrivate(method);
                Due.holds(method + " has a name of its own", !namesOfFace().contains(method.getName()));
            }
        }
        Due.holds("the methods are " + seen, seen.equals(new TreeSet<>(Arrays.asList(FACE))));
        for (Field field : FigurePlay.class.getDeclaredFields()) {
            if (field.getName().equals("BAD") || field.getName().equals("NONE")) {
                Due.is(field + " is public static final", field.getModifiers(),
                    Modifier.PUBLIC | Modifier.STATIC | Modifier.FINAL);
                Due.holds(field + " is an int", field.getType() == int.class);
            } else {
                isPrivate(field);
            }
        }
        Constructor<?>[] makers = FigurePlay.class.getDeclaredConstructors();
        Due.is("constructors", makers.length, 1);
        Due.is("what it takes", makers[0].getParameterCount(), 0);
        Due.holds("it is public", Modifier.isPublic(makers[0].getModifiers()));
        int of = FigurePlay.class.getModifiers();
        Due.holds("public and final", Modifier.isPublic(of) && Modifier.isFinal(of));
    }

    private static void isPrivate(Member member) {
        Due.holds(member + " is private", member.isSynthetic() || Modifier.isPrivate(member.getModifiers()));
    }

    private static Set<String> namesOfFace() {
        Set<String> names = new TreeSet<>();
        for (String method : FACE) {
            names.add(method.substring(method.indexOf(' ') + 1, method.indexOf('(')));
        }
        return names;
    }

    private static void insides() {
        Set<String> names = namesOfFace();
        Class<?>[] insides = FigurePlay.class.getDeclaredClasses();
        Due.holds("at most twelve classes", insides.length < 12);
        for (Class<?> inside : insides) {
            Due.holds(inside + " is static", Modifier.isStatic(inside.getModifiers()));
            Due.holds(inside + " is not public", !Modifier.isPublic(inside.getModifiers()));
            int fields = 0;
            for (Field field : inside.getDeclaredFields()) {
                boolean fixed = Modifier.isStatic(field.getModifiers());
                Due.holds(field + " is final if static", !fixed || Modifier.isFinal(field.getModifiers()));
                fields += fixed ? 0 : 1;
            }
            Due.holds(inside + " has at most twenty fields", fields <= 20);
            for (Method method : inside.getDeclaredMethods()) {
                Due.holds(method + " has a name of its own", !names.contains(method.getName()));
                Due.holds(method + " takes at most seven", method.getParameterCount() <= 7);
            }
        }
    }
}
