import java.io.IOException;
import java.lang.reflect.Constructor;
import java.lang.reflect.Field;
import java.lang.reflect.Method;
import java.lang.reflect.Modifier;
import java.nio.charset.StandardCharsets;
import java.nio.file.Files;
import java.nio.file.Path;
import java.util.ArrayList;
import java.util.List;
import java.util.Set;
import java.util.TreeSet;
import java.util.regex.Pattern;

/** The rules of LANGUAGE.md that can be seen from the class and from its text. */
final class LanguageTest {
    private static final String[] FORBIDDEN = {"\\bthrow\\b", "\\bthrows\\b", "\\btry\\b", "\\bcatch\\b",
        "\\bfinally\\b", "\\bsynchronized\\b", "\\bassert\\b", "\\bimport\\b", "\\bpackage\\b", "->", "::",
        "\\w+Exact\\b", "\\bSystem\\.(?!arraycopy\\b)", "\\bMath\\.random\\b", "\\bnative\\b", "\\bvolatile\\b",
        "\\bwhile *\\( *true *\\)", "for *\\( *;", "\\bdouble\\b", "\\bfloat\\b", "\\bequals\\b", "\\bhashCode\\b",
        "\\btoString\\b", "static *\\{"};

    public static void main(String[] args) throws IOException, IllegalAccessException {
        lookAtMethodsOfFace(publicMethods());
        lookAtConstants();
        lookAtConstructor();
        List<Class<?>> all = new ArrayList<>(List.of(CallRouter.class.getDeclaredClasses()));
        Check.dueTrue("at most twelve classes", all.size() < 12);
        for (Class<?> inside : all) {
            Check.dueTrue(inside + " is static", Modifier.isStatic(inside.getModifiers()));
            Check.dueTrue(inside + " is not public", (inside.getModifiers() & (Modifier.PUBLIC | Modifier.PROTECTED)) == 0);
            Check.due(inside + " has no class inside", inside.getDeclaredClasses().length, 0);
        }
        all.add(CallRouter.class);
        Set<String> publicNames = publicNames();
        for (Class<?> one : all) {
            lookAtMembers(one, publicNames);
        }
        lookAtText(Files.readString(Path.of("src/main/java/CallRouter.java"), StandardCharsets.ISO_8859_1));
        Check.finish();
    }

    private static String signature(Method method) {
        StringBuilder text = new StringBuilder();
        for (Class<?> parameter : method.getParameterTypes()) {
            text.append(text.length() == 0 ? "" : ",").append(parameter.getName());
        }
        return method.getReturnType().getName() + " " + method.getName() + "(" + text + ")";
    }

    /** The methods of the document's face, without the names of their parameters. */
    private static Set<String> publicMethods() throws IOException {
        Set<String> methods = new TreeSet<>();
        for (String member : Document.face()) {
            if (member.matches("\\w+ \\w+\\(.*\\)")) {
                methods.add(member.replaceAll("(int|boolean) \\w+(?=[,)])", "$1").replace(", ", ","));
            }
        }
        Check.due("the methods of the face", methods.size(), 27);
        return methods;
    }

    private static void lookAtMethodsOfFace(Set<String> face) {
        Check.due("public and final", CallRouter.class.getModifiers(), Modifier.PUBLIC | Modifier.FINAL);
        Set<String> methods = new TreeSet<>();
        for (Method method : CallRouter.class.getDeclaredMethods()) {
            if (!Modifier.isPrivate(method.getModifiers())) {
                methods.add(signature(method));
                Check.due(method + " is just public", method.getModifiers(), Modifier.PUBLIC);
            }
        }
        Check.dueTrue("the methods of the face: " + methods, methods.equals(face));
    }

    private static void lookAtConstants() throws IOException, IllegalAccessException {
        Set<String> due = new TreeSet<>();
        for (String member : Document.face()) {
            if (member.contains("=")) {
                due.add(member);
            }
        }
        Check.due("the constants of the face", due.size(), 4);
        Set<String> constants = new TreeSet<>();
        for (Field field : CallRouter.class.getDeclaredFields()) {
            if (!Modifier.isPrivate(field.getModifiers())) {
                Check.due(field + " is a public constant", field.getModifiers(),
                        Modifier.PUBLIC | Modifier.STATIC | Modifier.FINAL);
                constants.add("static final " + field.getType().getName() + " " + field.getName() + " = "
                        + field.get(null));
            }
        }
        Check.dueTrue("the constants of the face: " + constants, constants.equals(due));
    }

    private static void lookAtConstructor() {
        Constructor<?>[] constructors = CallRouter.class.getDeclaredConstructors();
        Check.due("one constructor", constructors.length, 1);
        Check.due("without arguments", constructors[0].getParameterCount(), 0);
        Check.due("that is public", constructors[0].getModifiers(), Modifier.PUBLIC);
    }

    private static Set<String> publicNames() throws IOException {
        Set<String> names = new TreeSet<>();
        for (String method : publicMethods()) {
            names.add(method.substring(method.indexOf(' ') + 1, method.indexOf('(')));
        }
        return names;
    }

    private static void lookAtMembers(Class<?> one, Set<String> publicNames) {
        for (Method method : one.getDeclaredMethods()) {
            Check.dueTrue(method + " takes at most seven", method.getParameterCount() <= 7);
            Check.dueTrue(method + " bears a name of its own", one == CallRouter.class
                    && Modifier.isPublic(method.getModifiers()) || !publicNames.contains(method.getName()));
        }
        int fields = 0;
        for (Field field : one.getDeclaredFields()) {
            if (Modifier.isStatic(field.getModifiers())) {
                Check.dueTrue(field + " is final", Modifier.isFinal(field.getModifiers()));
            } else {
                fields++;
            }
        }
        Check.dueTrue(one + " has at most twenty fields", fields <= 20);
    }

    private static void lookAtText(String text) {
        String code = text.replaceAll("(?s)/\\*.*?\\*/", "").replaceAll("//[^\n]*", "");
        Check.dueTrue("only plain signs", text.matches("[\\x0a\\x20-\\x7e]*"));
        for (String word : FORBIDDEN) {
            Check.dueTrue("no " + word, !Pattern.compile(word).matcher(code).find());
        }
        int length = 0;
        for (String line : code.split("\n")) {
            boolean begins = line.matches("( {4}| {8})\\S.*\\) \\{");
            length = begins ? 0 : length + 1;
            if (line.matches("( {4}| {8})\\}")) {
                Check.dueTrue("a method of " + length + " lines", length <= 60);
            }
        }
    }
}
