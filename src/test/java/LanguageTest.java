import java.io.IOException;
import java.lang.reflect.Constructor;
import java.lang.reflect.Field;
import java.lang.reflect.Member;
import java.lang.reflect.Method;
import java.lang.reflect.Modifier;
import java.nio.file.Files;
import java.nio.file.Path;
import java.util.ArrayList;
import java.util.Arrays;
import java.util.List;
import java.util.Set;
import java.util.TreeSet;
import java.util.regex.Matcher;
import java.util.regex.Pattern;

/** The public face, and those rules of LANGUAGE.md that can be seen from the text of the class. */
public final class LanguageTest {
    private static final Set<String> FACE = new TreeSet<>(Arrays.asList(
            "boolean feed(int, int)", "int run(int)", "int outSize()", "int out(int)",
            "void clearOut()", "int liveCells()", "int count(int)"));
    private static final String[] CONSTANTS = {
        "DONE 0", "MORE 1", "NONE 2", "SYNTAX -1", "UNBOUND -2", "FORM -3", "COUNT -4", "TYPE -5",
        "STACK -6", "ROOM -7", "SYMBOLS -8"};
    private static final String[] FORBIDDEN = {
        "throw", "throws", "try", "catch", "synchronized", "assert", "import", "package", "Object",
        "hashCode", "toString", "System", "Thread", "Random"};

    public static void main(String[] args) throws IOException, IllegalAccessException {
        hasTheFace();
        hasNestedClassesAsAllowed();
        hasNoForbiddenWord();
        hasShortMethods();
        Trial.end();
    }

    private static void hasTheFace() throws IllegalAccessException {
        Class<?> type = CellLisp.class;
        Trial.due("public final", type.getModifiers(), Modifier.PUBLIC | Modifier.FINAL);
        Set<String> methods = new TreeSet<>();
        for (Method method : type.getDeclaredMethods()) {
            if (Modifier.isPublic(method.getModifiers())) {
                methods.add(signature(method));
            } else {
                isPrivate(method);
            }
        }
        Trial.due("methods", methods, FACE);
        List<String> constants = new ArrayList<>();
        for (Field field : type.getDeclaredFields()) {
            if (Modifier.isPublic(field.getModifiers())) {
                Trial.due("constant", field.getModifiers(), Modifier.PUBLIC | Modifier.STATIC | Modifier.FINAL);
                constants.add(field.getName() + " " + field.get(null));
            } else {
                isPrivate(field);
            }
        }
        Trial.due("constants", constants, Arrays.asList(CONSTANTS));
        Constructor<?>[] constructors = type.getDeclaredConstructors();
        Trial.due("constructors", constructors.length, 1);
        Trial.due("constructor", constructors[0].toString(), "public CellLisp(int)");
    }

    private static String signature(Method method) {
        StringBuilder types = new StringBuilder();
        for (Class<?> type : method.getParameterTypes()) {
            types.append(types.length() == 0 ? "" : ", ").append(type.getName());
        }
        return method.getReturnType().getName() + " " + method.getName() + "(" + types + ")";
    }

    private static void isPrivate(Member member) {
        Trial.due(member + " is private", Modifier.isPrivate(member.getModifiers()), true);
    }

    private static void hasNestedClassesAsAllowed() {
        Class<?>[] inside = CellLisp.class.getDeclaredClasses();
        Trial.due("at most 12 classes", inside.length <= 11, true);
        for (Class<?> type : inside) {
            int modifiers = type.getModifiers();
            Trial.due(type + " is static", Modifier.isStatic(modifiers), true);
            Trial.due(type + " is not public", Modifier.isPublic(modifiers) || Modifier.isProtected(modifiers), false);
            int fields = 0;
            for (Field field : type.getDeclaredFields()) {
                boolean isStatic = Modifier.isStatic(field.getModifiers());
                fields += isStatic ? 0 : 1;
                Trial.due(field + " is final", !isStatic || Modifier.isFinal(field.getModifiers()), true);
            }
            Trial.due(type + " has at most 20 fields", fields <= 20, true);
            for (Method method : type.getDeclaredMethods()) {
                Trial.due(method + " has at most 7 parameters", method.getParameterCount() <= 7, true);
                Trial.due(method + " bears no public one's name", isPublicName(method.getName()), false);
            }
        }
    }

    private static boolean isPublicName(String name) {
        return FACE.stream().anyMatch(one -> one.contains(" " + name + "("));
    }

    /** The class without its comments, and without what stands in its texts. */
    private static String code() throws IOException {
        String source = Files.readString(Path.of(System.getProperty("source", "src/main/java/CellLisp.java")));
        String bare = source.replaceAll("(?s)/\\*.*?\\*/", "").replaceAll("//[^\n]*", "");
        return bare.replaceAll("\"[^\"\n]*\"", "\"\"");
    }

    private static void hasNoForbiddenWord() throws IOException {
        String code = code();
        for (String word : FORBIDDEN) {
            boolean stands = Pattern.compile("\\b" + word + "\\b").matcher(code).find();
            Trial.due(word + " stands in the class", stands, false);
        }
        Trial.due("-> stands in the class", code.contains("->"), false);
        Trial.due(":: stands in the class", code.contains("::"), false);
    }

    private static void hasShortMethods() throws IOException {
        Matcher heads = Pattern.compile("(?m)^( +)[^\\s].*\\) \\{$").matcher(code());
        String code = code();
        while (heads.find()) {
            String close = "\n" + heads.group(1) + "}";
            int lines = code.substring(heads.start(), code.indexOf(close, heads.end())).split("\n").length;
            Trial.due(heads.group().trim() + " has at most 60 lines", lines <= 60, true);
        }
    }
}
