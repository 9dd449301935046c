import java.lang.reflect.Constructor;
import java.lang.reflect.Field;
import java.lang.reflect.Method;
import java.lang.reflect.Modifier;
import java.util.TreeSet;

/** The class shows what the document's public face has, and nothing more (LANGUAGE.md, rule 1). */
public final class FaceTest {
    private static final String[] DUE = {
        "public final class NestCells",
        "public static final int NONE",
        "public NestCells()",
        "public void format()",
        "public int begin() throws IllegalStateException",
        "public int write(int,int) throws IllegalArgumentException,IllegalStateException",
        "public int read(int) throws IllegalArgumentException,IllegalStateException",
        "public int commit() throws IllegalStateException",
        "public int abort() throws IllegalStateException",
        "public int point(int) throws IllegalArgumentException,IllegalStateException",
        "public int back(int) throws IllegalArgumentException,IllegalStateException",
        "public int release(int) throws IllegalArgumentException,IllegalStateException",
        "public void crash(int)",
        "public int recover()",
        "public int disk(int) throws IllegalArgumentException",
        "public int spoil(int,int) throws IllegalArgumentException",
        "public int level(int,int) throws IllegalArgumentException",
        "public int about(int) throws IllegalArgumentException",
    };

    public static void main(String[] args) {
        Class<?> face = NestCells.class;
        TreeSet<String> shown = new TreeSet<>();
        TreeSet<String> publicNames = new TreeSet<>();
        shown.add(Modifier.toString(face.getModifiers()) + " class " + face.getName());
        for (Field field : face.getDeclaredFields()) {
            keepIfShown(shown, field.getModifiers(), field.toString().replace("NestCells.", ""));
        }
        for (Constructor<?> maker : face.getDeclaredConstructors()) {
            keepIfShown(shown, maker.getModifiers(), maker.toString());
        }
        for (Method method : face.getDeclaredMethods()) {
            if (Modifier.isPublic(method.getModifiers())) {
                publicNames.add(method.getName());
            }
            String told = method.toString().replace("NestCells.", "").replace("java.lang.", "");
            keepIfShown(shown, method.getModifiers(), told);
        }
        Check.same("the face", shown, new TreeSet<>(java.util.List.of(DUE)));
        for (Method method : face.getDeclaredMethods()) {
            boolean clash = Modifier.isPrivate(method.getModifiers()) && publicNames.contains(method.getName());
            Check.same("a private method bears a public name: " + method.getName(), clash, false);
        }
        Check.same("NONE", NestCells.NONE, -1);
        Check.ended("FaceTest");
    }

    private static void keepIfShown(TreeSet<String> shown, int modifiers, String told) {
        if (!Modifier.isPrivate(modifiers)) {
            shown.add(told);
        }
    }
}
