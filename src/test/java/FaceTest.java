import java.lang.reflect.Field;
import java.lang.reflect.Method;
import java.lang.reflect.Modifier;
import java.util.Arrays;
import java.util.TreeSet;

/** The public face is the document's, and nothing else can be seen from outside. */
public final class FaceTest {
    private static final String[] FACE = {
        "int feed(int,int,int,int,int)", "boolean end(int)", "boolean land(int,int,int)",
        "int person(int,boolean,int,int)", "int run(int)", "int runner(int,int)", "int staked(int)", "int law()",
        "int fault()", "boolean wait(int)", "int file(int,int)", "int witness(int,int,int)", "int span(int,int,int)",
        "int judge(int,int)", "int doubt(int,int)", "int lots()", "int drawn(int)", "boolean bid(int)", "int sell()",
        "int bought(int)", "int count(int)",
    };

    private FaceTest() {
    }

    public static void main(String[] args) {
        Check check = new Check("FaceTest");
        Class<LandRun> face = LandRun.class;
        check.yes("public", Modifier.isPublic(face.getModifiers()));
        check.yes("final", Modifier.isFinal(face.getModifiers()));
        check.due("constructors", face.getDeclaredConstructors().length, 1);
        check.due("NONE", LandRun.NONE, -1);
        TreeSet<String> wanted = new TreeSet<>(Arrays.asList(FACE));
        TreeSet<String> publicNames = new TreeSet<>();
        for (Method method : face.getDeclaredMethods()) {
            if (Modifier.isPublic(method.getModifiers())) {
                publicNames.add(method.getName());
                check.yes(signature(method), wanted.remove(signature(method)));
            }
        }
        check.due("methods that are not there " + wanted, wanted.size(), 0);
        for (Method method : face.getDeclaredMethods()) {
            if (!Modifier.isPublic(method.getModifiers())) {
                check.yes(method + " is private", Modifier.isPrivate(method.getModifiers()));
                check.no(method + " bears a public name", publicNames.contains(method.getName()));
            }
        }
        for (Field field : face.getDeclaredFields()) {
            check.yes(field + " is private", Modifier.isPrivate(field.getModifiers()) || field.getName().equals("NONE"));
        }
        for (Class<?> inside : face.getDeclaredClasses()) {
            check.yes(inside + " is static", Modifier.isStatic(inside.getModifiers()));
            check.no(inside + " is public", Modifier.isPublic(inside.getModifiers()));
            for (Method method : inside.getDeclaredMethods()) {
                check.no(method + " bears a public name", publicNames.contains(method.getName()));
            }
        }
        check.finish();
    }

    private static String signature(Method method) {
        StringBuilder text = new StringBuilder(method.getReturnType().getName());
        text.append(' ').append(method.getName()).append('(');
        for (Class<?> type : method.getParameterTypes()) {
            text.append(text.charAt(text.length() - 1) == '(' ? "" : ",").append(type.getName());
        }
        return text.append(')').toString();
    }
}
