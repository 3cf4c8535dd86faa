import java.lang.reflect.Constructor;
import java.lang.reflect.Executable;
import java.lang.reflect.Field;
import java.lang.reflect.Method;
import java.lang.reflect.Modifier;
import java.util.Arrays;
import java.util.TreeSet;

/** The public face: just the members of the document, with the exceptions that they name. */
public final class FaceTest {
    private static final String I = "IndexOutOfBoundsException";
    private static final String A = "IllegalArgumentException";
    private static final String S = "IllegalStateException";
    private static final String N = "NoSuchElementException";
    private static final String U = "UnsupportedOperationException";
    private static final String M = "ArithmeticException";

    private static final String[] CALLS = {
        "Ferryroster()",
        "int pass(int) " + A + " " + S,
        "int now()",
        "int setDayRule(int) " + A,
        "int setWeekRule(int) " + A,
        "int addPerson() " + S,
        "int grant(int,int,int) " + I + " " + A + " " + S,
        "int renew(int,int,int) " + I + " " + A + " " + N + " " + S,
        "int lastDay(int,int) " + I + " " + A + " " + N,
        "int callSick(int,int) " + I + " " + A,
        "int recover(int) " + I + " " + S,
        "int enroll(int,int,int,int) " + I + " " + A + " " + S,
        "int leaveCourse(int) " + I + " " + S,
        "boolean isAway(int,int) " + I + " " + A,
        "int addShip(int) " + A + " " + S,
        "int addPost(int,int) " + I + " " + A + " " + S,
        "int plan(int,int,int) " + I + " " + A + " " + S,
        "int assign(int,int,int) " + N + " " + I + " " + S + " " + A + " " + U,
        "int release(int,int) " + N + " " + I + " " + S,
        "int cancel(int) " + N + " " + S,
        "int relieve(int) " + N + " " + S + " " + U,
        "int relieveAll()",
        "char stateOf(int) " + N,
        "int personOn(int,int) " + N + " " + I,
        "boolean isComplete(int) " + N + " " + S,
        "int reason(int,int,int) " + N + " " + I + " " + S,
        "int fitting(int,int) " + N + " " + I + " " + S,
        "int shortSailings()",
        "int sailings(char) " + A,
        "int work(int,int,int) " + I + " " + A,
        "int mostInDay(int) " + I,
        "int mostInDayByHours(int) " + I,
        "int mostInWeek(int) " + I,
        "int mostInWeekByHours(int) " + I,
        "int nextStart(int,int) " + I + " " + A + " " + N,
        "float workShare(int) " + I + " " + M,
        "double meanWork() " + M,
        "boolean isSound()",
    };

    private static final String[] CONSTANTS = {
        "NONE=-1", "FITS=0", "NO_CERTIFICATE=1", "SICK=2", "ON_COURSE=3", "ELSEWHERE=4", "DAY_RULE=5", "WEEK_RULE=6",
    };

    private static String told(String result, String name, Executable call) {
        StringBuilder text = new StringBuilder(result.isEmpty() ? "" : result + " ").append(name).append('(');
        for (Class<?> type : call.getParameterTypes()) {
            text.append(text.charAt(text.length() - 1) == '(' ? "" : ",").append(type.getName());
        }
        text.append(')');
        for (Class<?> type : call.getExceptionTypes()) {
            text.append(' ').append(type.getSimpleName());
        }
        return text.toString();
    }

    public static void main(String[] args) throws IllegalAccessException {
        Class<?> face = Ferryroster.class;
        TreeSet<String> calls = new TreeSet<>();
        for (Constructor<?> call : face.getDeclaredConstructors()) {
            if (!Modifier.isPrivate(call.getModifiers())) {
                calls.add(told("", "Ferryroster", call));
            }
        }
        TreeSet<String> publicNames = new TreeSet<>();
        for (Method call : face.getDeclaredMethods()) {
            if (!Modifier.isPrivate(call.getModifiers())) {
                calls.add(told(call.getReturnType().getName(), call.getName(), call));
                publicNames.add(call.getName());
            }
        }
        for (Method call : face.getDeclaredMethods()) {
            if (Modifier.isPrivate(call.getModifiers())) {
                Check.no("a private method is named " + call.getName(), publicNames.contains(call.getName()));
            }
        }
        Check.due("the calls", calls, new TreeSet<>(Arrays.asList(CALLS)));

        TreeSet<String> constants = new TreeSet<>();
        for (Field field : face.getDeclaredFields()) {
            if (!Modifier.isPrivate(field.getModifiers())) {
                int want = Modifier.PUBLIC | Modifier.STATIC | Modifier.FINAL;
                Check.due("the modifiers of " + field.getName(), field.getModifiers(), want);
                constants.add(field.getName() + "=" + field.getInt(null));
            }
        }
        Check.due("the constants", constants, new TreeSet<>(Arrays.asList(CONSTANTS)));
        Check.yes("the class is public and final",
                Modifier.isPublic(face.getModifiers()) && Modifier.isFinal(face.getModifiers()));
        Check.end("FaceTest");
    }
}
