import java.lang.reflect.Constructor;
import java.lang.reflect.Field;
import java.lang.reflect.Method;
import java.lang.reflect.Modifier;
import java.util.Arrays;
import java.util.Set;
import java.util.TreeSet;

/** The public face: what the document lists, and no more. */
public final class FaceTest {
    public static void main(String[] args) {
        Set<String> want = new TreeSet<>(Arrays.asList(
            "public static final int ShellSum.NONE",
            "public ShellSum()",
            "public int ShellSum.text(long,int)",
            "public long ShellSum.value() throws java.lang.IllegalStateException",
            "public boolean ShellSum.name(long,int)",
            "public boolean ShellSum.put(long,int)",
            "public boolean ShellSum.drop()",
            "public int ShellSum.letter(int)",
            "public int ShellSum.count(int)"));
        Set<String> got = new TreeSet<>();
        for (Field field : ShellSum.class.getDeclaredFields()) {
            if (!Modifier.isPrivate(field.getModifiers())) {
                got.add(field.toString());
            }
        }
        for (Constructor<?> made : ShellSum.class.getDeclaredConstructors()) {
            got.add(made.toString());
        }
        for (Method method : ShellSum.class.getDeclaredMethods()) {
            if (!Modifier.isPrivate(method.getModifiers()) && !method.isSynthetic()) {
                got.add(method.toString());
            }
        }
        Calls.due("the face", got, want);
        Calls.due("modifiers of the class", ShellSum.class.getModifiers(), Modifier.PUBLIC | Modifier.FINAL);
        Calls.due("NONE", ShellSum.NONE, -1);
        Calls.end();
    }
}
