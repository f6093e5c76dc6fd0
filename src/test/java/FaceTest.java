import java.lang.reflect.Constructor;
import java.lang.reflect.Field;
import java.lang.reflect.Member;
import java.lang.reflect.Method;
import java.lang.reflect.Modifier;
import java.util.ArrayList;
import java.util.Arrays;
import java.util.Collections;
import java.util.List;

/** The face is the document's, to the letter, and nothing else of the class is seen from outside. */
public final class FaceTest {
    private static final List<String> DUE = Arrays.asList(
            "NONE int",
            "GatedTrunk(int,int,int,int)",
            "open() int",
            "push(int,int,int) boolean",
            "approve(int,int) boolean",
            "object(int,int) boolean",
            "close(int) boolean",
            "enqueue(int) boolean",
            "rebase(int) boolean",
            "claim(int) int",
            "report(int,boolean) boolean",
            "tick(int) int",
            "flush() int",
            "crash(int) int",
            "state(int) int",
            "cause(int) int",
            "standing(int) int",
            "file(int,int) int",
            "queueAt(int) int",
            "batch() int",
            "job(int) int",
            "version() int");

    public static void main(String[] args) {
        Check.part("the face");
        List<String> found = new ArrayList<>();
        for (Field field : GatedTrunk.class.getDeclaredFields()) {
            if (isSeen(field)) {
                found.add(field.getName() + " " + field.getType());
                Check.yes("a seen field is a constant", Modifier.isStatic(field.getModifiers()));
                Check.yes("a seen field is final", Modifier.isFinal(field.getModifiers()));
            }
        }
        for (Constructor<?> constructor : GatedTrunk.class.getDeclaredConstructors()) {
            if (isSeen(constructor)) {
                found.add("GatedTrunk" + parameters(constructor.getParameterTypes()));
            }
        }
        for (Method method : GatedTrunk.class.getDeclaredMethods()) {
            if (isSeen(method)) {
                found.add(method.getName() + parameters(method.getParameterTypes()) + " " + method.getReturnType());
            }
        }
        List<String> due = new ArrayList<>(DUE);
        Collections.sort(due);
        Collections.sort(found);
        Check.yes("the face " + found, due.equals(found));
        Check.yes("public", Modifier.isPublic(GatedTrunk.class.getModifiers()));
        Check.yes("final", Modifier.isFinal(GatedTrunk.class.getModifiers()));
        Check.due("NONE", -1, GatedTrunk.NONE);
        checkNested();
        Check.finish();
    }

    private static void checkNested() {
        List<String> faceNames = new ArrayList<>();
        for (String line : DUE) {
            faceNames.add(line.split("[( ]")[0]);
        }
        for (Class<?> nested : GatedTrunk.class.getDeclaredClasses()) {
            int modifiers = nested.getModifiers();
            Check.yes(nested + " is static", Modifier.isStatic(modifiers));
            Check.no(nested + " is public or protected", Modifier.isPublic(modifiers) || Modifier.isProtected(modifiers));
            for (Method method : nested.getDeclaredMethods()) {
                Check.no(method + " bears a name of the face", faceNames.contains(method.getName()));
            }
        }
    }

    private static boolean isSeen(Member member) {
        return !Modifier.isPrivate(member.getModifiers()) && !member.isSynthetic();
    }

    private static String parameters(Class<?>[] types) {
        List<String> names = new ArrayList<>();
        for (Class<?> type : types) {
            names.add(type.getName());
        }
        return "(" + String.join(",", names) + ")";
    }
}
