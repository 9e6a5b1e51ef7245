import java.lang.reflect.Constructor;
import java.lang.reflect.Field;
import java.lang.reflect.Member;
import java.lang.reflect.Method;
import java.lang.reflect.Modifier;
import java.util.Arrays;
import java.util.Set;
import java.util.TreeSet;

/** The class has the face of the document and no other member that can be seen from outside. */
public final class FaceTest {
    private static final String[] METHODS = {
        "void make(int,int) throws IllegalArgumentException",
        "void seats(int,int) throws IndexOutOfBoundsException,IllegalArgumentException",
        "int prefer(int,int,int)",
        "int forget(int,int)",
        "int listed(int,int,int)",
        "int work()",
        "int count(int)",
        "int hospital(int,int)",
        "int cost(int,int)",
        "int cheapest(int)",
        "int bound(int,int,int)",
        "int behind(int,int)",
        "int rotation(int,int,int)",
        "int done(int,int)",
        "int before(int,int)",
        "void tell(int,int) throws IndexOutOfBoundsException",
        "void take(int) throws IndexOutOfBoundsException",
        "int fits()",
        "int blocks()",
        "int blocking(int)",
        "int which()",
        "int check()",
    };

    private static int wrong = 0;

    public static void main(String[] args) throws Exception {
        due("methods", visibleMethods().toString(), new TreeSet<>(Arrays.asList(METHODS)).toString());
        due("class", Modifier.toString(MatchHall.class.getModifiers()), "public final");
        Constructor<?>[] made = MatchHall.class.getDeclaredConstructors();
        due("constructors", made.length + " " + made[0], "1 public MatchHall()");
        for (Field field : MatchHall.class.getDeclaredFields()) {
            boolean isNone = field.getName().equals("NONE");
            due(field.getName(), isVisible(field) ? "seen" : "hidden", isNone ? "seen" : "hidden");
        }
        Field none = MatchHall.class.getField("NONE");
        due("NONE", none + " = " + none.getInt(null), "public static final int MatchHall.NONE = -1");
        noHiddenMethodHasAPublicName(MatchHall.class);
        for (Class<?> inside : MatchHall.class.getDeclaredClasses()) {
            noHiddenMethodHasAPublicName(inside);
            int seen = inside.getModifiers();
            due(inside + " is static", String.valueOf(Modifier.isStatic(seen)), "true");
            due(inside + " is hidden", String.valueOf(Modifier.isPublic(seen) || Modifier.isProtected(seen)), "false");
        }
        System.out.println(wrong == 0 ? "all answers are as due" : wrong + " answers are not as due");
        if (wrong != 0) {
            System.exit(1);
        }
    }

    private static void due(String what, String got, String want) {
        if (!got.equals(want)) {
            wrong++;
            System.out.println(what + ": " + got + ", due is " + want);
        }
    }

    private static boolean isVisible(Member member) {
        return !Modifier.isPrivate(member.getModifiers());
    }

    private static Set<String> visibleMethods() {
        Set<String> found = new TreeSet<>();
        for (Method method : MatchHall.class.getDeclaredMethods()) {
            if (isVisible(method)) {
                due(method.getName(), Modifier.toString(method.getModifiers()), "public");
                found.add(textOf(method));
            }
        }
        return found;
    }

    private static String textOf(Method method) {
        String text = method.getReturnType() + " " + method.getName() + "(" + names(method.getParameterTypes()) + ")";
        String thrown = names(method.getExceptionTypes());
        return thrown.isEmpty() ? text : text + " throws " + thrown;
    }

    private static String names(Class<?>[] types) {
        StringBuilder text = new StringBuilder();
        for (Class<?> type : types) {
            text.append(text.length() == 0 ? "" : ",").append(type.getSimpleName());
        }
        return text.toString();
    }

    private static void noHiddenMethodHasAPublicName(Class<?> place) {
        for (Method method : place.getDeclaredMethods()) {
            if (Modifier.isPublic(method.getModifiers()) && place == MatchHall.class) {
                continue;
            }
            for (String known : METHODS) {
                boolean same = known.contains(" " + method.getName() + "(");
                due(place + " " + method.getName() + " has a name of the face", String.valueOf(same), "false");
            }
        }
    }
}
