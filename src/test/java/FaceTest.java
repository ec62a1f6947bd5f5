import java.io.IOException;
import java.lang.reflect.Constructor;
import java.lang.reflect.Executable;
import java.lang.reflect.Field;
import java.lang.reflect.Member;
import java.lang.reflect.Method;
import java.lang.reflect.Modifier;
import java.nio.file.Files;
import java.nio.file.Path;
import java.util.ArrayList;
import java.util.Arrays;
import java.util.List;
import java.util.Set;
import java.util.TreeSet;
import java.util.stream.Collectors;

/** The class has the members that "The public face" of the document lists, and no other one that can be seen. */
public final class FaceTest {
    private static final Path DOCUMENT = Path.of("../shared/DOC.md");
    private static final Class<?> FACE = UndoJourneys.class;

    private final Check check = new Check("FaceTest");

    public static void main(String[] args) throws IOException, IllegalAccessException {
        FaceTest test = new FaceTest();
        test.classItself();
        test.members();
        test.hiddenMembers();
        test.classesInside();
        test.check.end();
    }

    /** The lines of the document's face, without the names of parameters and without empty space that says nothing. */
    private static Set<String> dueMembers() throws IOException {
        String document = Files.readString(DOCUMENT);
        String face = document.substring(document.indexOf("public final class UndoJourneys {"), document.indexOf("## Terms"));
        Set<String> due = new TreeSet<>();
        for (String line : face.split("\n")) {
            String member = line.trim();
            if (member.startsWith("public ") && member.endsWith(";")) {
                due.add(member.replace(";", "").replaceAll("(int|long) [a-z0-9A-Z]+(?=[,)])", "$1"));
            }
        }
        return due;
    }

    private void classItself() {
        check.note(Modifier.isPublic(FACE.getModifiers()), "the class is public");
        check.note(Modifier.isFinal(FACE.getModifiers()), "the class is final");
        check.note(FACE.getPackageName().isEmpty(), "the class is in no package");
        check.note(FACE.getSuperclass() == Object.class && FACE.getInterfaces().length == 0, "the class is of no other kind");
    }

    private void members() throws IOException, IllegalAccessException {
        Set<String> got = new TreeSet<>();
        for (Field field : FACE.getDeclaredFields()) {
            if (isSeen(field)) {
                check.note(field.getType() == int.class, field + " is an int");
                got.add(Modifier.toString(field.getModifiers()) + " int " + field.getName() + " = " + field.getInt(null));
            }
        }
        for (Constructor<?> constructor : FACE.getDeclaredConstructors()) {
            if (isSeen(constructor)) {
                got.add(told(constructor, "", FACE.getSimpleName()));
            }
        }
        for (Method method : FACE.getDeclaredMethods()) {
            if (isSeen(method)) {
                got.add(told(method, method.getReturnType().getSimpleName() + " ", method.getName()));
            }
        }
        Set<String> due = dueMembers();
        check.note(due.size() == 3 + 1 + 18, "the document lists 22 members, read were " + due);
        for (String member : due) {
            check.note(got.contains(member), "not in the class: " + member);
        }
        for (String member : got) {
            check.note(due.contains(member), "not in the document: " + member);
        }
    }

    private static boolean isSeen(Member member) {
        return !Modifier.isPrivate(member.getModifiers()) && !member.isSynthetic();
    }

    private static String told(Executable call, String answer, String name) {
        String thrown = names(call.getExceptionTypes());
        return Modifier.toString(call.getModifiers()) + " " + answer + name + "(" + names(call.getParameterTypes()) + ")"
            + (thrown.isEmpty() ? "" : " throws " + thrown);
    }

    private static String names(Class<?>[] types) {
        return Arrays.stream(types).map(Class::getSimpleName).collect(Collectors.joining(", "));
    }

    private void hiddenMembers() {
        List<String> open = new ArrayList<>();
        for (Method method : FACE.getDeclaredMethods()) {
            if (isSeen(method)) {
                open.add(method.getName());
            }
        }
        List<Class<?>> all = new ArrayList<>(List.of(FACE));
        all.addAll(List.of(FACE.getDeclaredClasses()));
        for (Class<?> type : all) {
            for (Method method : type.getDeclaredMethods()) {
                check.note(isSeen(method) || !open.contains(method.getName()), method + " bears the name of a public one");
                check.note(method.getParameterCount() <= 7, method + " has more than seven parameters");
            }
            for (Field field : type.getDeclaredFields()) {
                int modifiers = field.getModifiers();
                check.note(!Modifier.isStatic(modifiers) || Modifier.isFinal(modifiers), field + " is static but not final");
            }
        }
    }

    private void classesInside() {
        for (Class<?> type : FACE.getDeclaredClasses()) {
            int modifiers = type.getModifiers();
            check.note(Modifier.isStatic(modifiers), type + " is static");
            check.note(!Modifier.isPublic(modifiers) && !Modifier.isProtected(modifiers), type + " is not seen from outside");
        }
    }
}
