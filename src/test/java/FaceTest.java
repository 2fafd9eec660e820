import java.lang.reflect.Constructor;
import java.lang.reflect.Field;
import java.lang.reflect.Method;
import java.lang.reflect.Modifier;
import java.util.Arrays;
import java.util.List;
import java.util.Set;
import java.util.TreeSet;

/** The public face is the document's, and nothing more can be seen from outside. */
public final class FaceTest {
    private static final List<String> METHODS = List.of(
            "int feed(int,int,int,int,int)", "int book(int)", "int laws(int)", "int fault()", "int where()",
            "int pass(int)", "int takes(int,int,int,int,int)", "int why(int,int,int,int,int)",
            "int person(int)", "int paper(int,int,int,int,int)", "int held(int,int,int)",
            "boolean move(int,int)", "int is(int,int,int)", "int nowhere(int,int)", "int open(int,int,int)",
            "int first(int,int,int)", "int cheap(int,int,int)", "int reach(int,int)", "int opener(int,int)",
            "int stamp(int,int,int)", "int least(int,int,int)", "int bought()", "int child(int)",
            "int judge(int,int,int,int,int)", "int binds(int,int,int,int)", "int unlike(int,int,int)",
            "int clause(int,int)", "int quarrel(int,int)", "int signed()", "int signs(int)",
            "int contract(int,int)", "long burn(int,int)", "boolean rename(int,int)", "long owed(int)",
            "int led(int,int,int,int)", "int count(int)", "int trouble()");

    public static void main(String[] args) {
        Check check = new Check("FaceTest");
        Set<String> seen = new TreeSet<>();
        Set<String> publicNames = new TreeSet<>();
        for (Method m : BridgeStrip.class.getDeclaredMethods()) {
            if (!Modifier.isPrivate(m.getModifiers())) {
                seen.add(shape(m));
                publicNames.add(m.getName());
                check.that(Modifier.isPublic(m.getModifiers()) && !Modifier.isStatic(m.getModifiers()), "public: " + m);
            }
        }
        check.that(seen.equals(new TreeSet<>(METHODS)), "methods are " + seen);
        checkPrivateNames(check, BridgeStrip.class, publicNames);
        for (Class<?> inner : BridgeStrip.class.getDeclaredClasses()) {
            checkPrivateNames(check, inner, publicNames);
            check.that(Modifier.isStatic(inner.getModifiers()), "a class inside is static: " + inner);
            check.that(!Modifier.isPublic(inner.getModifiers()), "a class inside isn't public: " + inner);
            check.that(inner.getDeclaredFields().length <= 30, "few fields: " + inner);
        }
        check.that(BridgeStrip.class.getDeclaredClasses().length <= 12, "some twelve classes");
        checkFields(check);
        Constructor<?>[] made = BridgeStrip.class.getDeclaredConstructors();
        check.that(made.length == 1 && Modifier.isPublic(made[0].getModifiers())
                && made[0].getParameterCount() == 0, "one constructor");
        check.that(Modifier.isFinal(BridgeStrip.class.getModifiers()), "the class is final");
        check.that(BridgeStrip.NONE == -1, "NONE is -1");
        check.end();
    }

    private static String shape(Method m) {
        StringBuilder text = new StringBuilder(m.getReturnType() + " " + m.getName() + "(");
        for (Class<?> type : m.getParameterTypes()) {
            text.append(text.charAt(text.length() - 1) == '(' ? "" : ",").append(type);
        }
        return text.append(")").toString();
    }

    private static void checkFields(Check check) {
        for (Field f : BridgeStrip.class.getDeclaredFields()) {
            boolean isNone = f.getName().equals("NONE");
            check.that(Modifier.isPublic(f.getModifiers()) == isNone, "only NONE is public: " + f);
            check.that(isNone || Modifier.isPrivate(f.getModifiers()), "private: " + f);
            check.that(!Modifier.isStatic(f.getModifiers()) || Modifier.isFinal(f.getModifiers()), "final: " + f);
        }
    }

    /** LANGUAGE.md, rules 1 and 11: no private method bears a public one's name; at most seven parameters. */
    private static void checkPrivateNames(Check check, Class<?> type, Set<String> publicNames) {
        for (Method m : type.getDeclaredMethods()) {
            boolean ofFace = type == BridgeStrip.class && Modifier.isPublic(m.getModifiers());
            check.that(ofFace || !publicNames.contains(m.getName()), "a name of its own: " + m);
            check.that(m.getParameterCount() <= 7, "at most seven parameters: " + m + Arrays.toString(m.getParameters()));
        }
    }
}
