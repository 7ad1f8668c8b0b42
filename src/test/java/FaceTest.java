import java.io.IOException;
import java.lang.reflect.Constructor;
import java.lang.reflect.Field;
import java.lang.reflect.Member;
import java.lang.reflect.Method;
import java.lang.reflect.Modifier;
import java.nio.file.Files;
import java.nio.file.Path;
import java.util.Set;
import java.util.TreeSet;

/** The class has the document's face and nothing else that can be seen from outside. */
public final class FaceTest {
    private FaceTest() {
    }

    public static void main(String[] args) throws IOException {
        String document = Files.readString(Path.of(args[0], "DOC.md"));
        Check.due("the face", face(), faceOf(document));
        Check.due("public and final", StreetNamer.class.getModifiers(), Modifier.PUBLIC | Modifier.FINAL);
        for (Class<?> inside : StreetNamer.class.getDeclaredClasses()) {
            boolean isInside = Modifier.isStatic(inside.getModifiers()) && !Modifier.isPublic(inside.getModifiers());
            Check.due(inside.getName() + " is static and not public", isInside, true);
        }
        Check.end("FaceTest");
    }

    private static Set<String> faceOf(String document) {
        Set<String> face = new TreeSet<>();
        int from = document.indexOf("public final class StreetNamer {");
        for (String line : document.substring(from, document.indexOf("```", from)).split("\n")) {
            String call = line.trim();
            if (call.startsWith("public ") && call.endsWith(";")) {
                face.add(call.replaceAll("(int|char|boolean) \\w+([,)])", "$1$2").replace(";", ""));
            }
        }
        return face;
    }

    private static Set<String> face() {
        Set<String> face = new TreeSet<>();
        Set<String> names = new TreeSet<>();
        for (Field field : StreetNamer.class.getDeclaredFields()) {
            addIfSeen(face, field, field.getName());
        }
        for (Constructor<?> made : StreetNamer.class.getDeclaredConstructors()) {
            addIfSeen(face, made, "StreetNamer" + types(made.getParameterTypes(), "(", ")"));
        }
        for (Method method : StreetNamer.class.getDeclaredMethods()) {
            String call = method.getReturnType().getSimpleName() + " " + method.getName()
                    + types(method.getParameterTypes(), "(", ")");
            Class<?>[] thrown = method.getExceptionTypes();
            addIfSeen(face, method, call + (thrown.length == 0 ? "" : types(thrown, " throws ", "")));
            Check.due("no private method is named as a public one: " + method,
                    Modifier.isPublic(method.getModifiers()) && !names.add(method.getName()), false);
        }
        for (Method method : StreetNamer.class.getDeclaredMethods()) {
            boolean isHidden = !Modifier.isPublic(method.getModifiers());
            Check.due("a hidden name: " + method, isHidden && names.contains(method.getName()), false);
        }
        return face;
    }

    private static void addIfSeen(Set<String> face, Member member, String told) {
        if (!Modifier.isPrivate(member.getModifiers())) {
            face.add((Modifier.isPublic(member.getModifiers()) ? "public " : "seen ") + told);
        }
    }

    private static String types(Class<?>[] types, String before, String behind) {
        StringBuilder told = new StringBuilder(before);
        for (int i = 0; i < types.length; i++) {
            told.append(i == 0 ? "" : ", ").append(types[i].getSimpleName());
        }
        return told.append(behind).toString();
    }
}
