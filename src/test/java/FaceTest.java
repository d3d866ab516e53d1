import java.lang.reflect.Constructor;
import java.lang.reflect.Field;
import java.lang.reflect.Method;
import java.lang.reflect.Modifier;
import java.nio.file.Files;
import java.nio.file.Path;
import java.util.Arrays;
import java.util.TreeSet;
import java.util.regex.Matcher;
import java.util.regex.Pattern;
import java.util.stream.Collectors;

/** The class has the document's face and no more, and its text keeps to what LANGUAGE.md rules out. */
public final class FaceTest {
    private static int wrong = 0;

    private static void check(boolean fine, String what) {
        if (!fine) {
            wrong++;
            System.out.println("face: " + what);
        }
    }

    public static void main(String[] args) throws Exception {
        face(Files.readString(Path.of("../shared/DOC.md")));
        text(Files.readString(Path.of("src/main/java/PractisedWrong.java")));
        System.out.println(wrong == 0 ? "face: as the document says" : "face: " + wrong + " faults");
        if (wrong != 0) {
            System.exit(1);
        }
    }

    private static void face(String document) {
        TreeSet<String> told = new TreeSet<>();
        Matcher m = Pattern.compile("^    public (int|long) (\\w+)\\(([^)]*)\\);$", Pattern.MULTILINE).matcher(document);
        while (m.find()) {
            String types = m.group(3).isEmpty() ? "" : Arrays.stream(m.group(3).split(", ")).map(p -> p.split(" ")[0]).collect(Collectors.joining(","));
            told.add(m.group(1) + " " + m.group(2) + "(" + types + ")");
        }
        check(told.size() == 43, "the document's face has " + told.size() + " methods");

        TreeSet<String> is = new TreeSet<>();
        TreeSet<String> publicNames = new TreeSet<>();
        TreeSet<String> privateNames = new TreeSet<>();
        for (Method method : PractisedWrong.class.getDeclaredMethods()) {
            if (Modifier.isPublic(method.getModifiers())) {
                String types = Arrays.stream(method.getParameterTypes()).map(Class::getName).collect(Collectors.joining(","));
                is.add(method.getReturnType() + " " + method.getName() + "(" + types + ")");
                publicNames.add(method.getName());
                check(!Modifier.isStatic(method.getModifiers()), method + " is static");
            } else {
                check(Modifier.isPrivate(method.getModifiers()), method + " is not private");
                privateNames.add(method.getName());
            }
        }
        check(is.equals(told), "the methods are " + is + ", told are " + told);
        for (Class<?> inside : PractisedWrong.class.getDeclaredClasses()) {
            check(Modifier.isStatic(inside.getModifiers()) || inside.isInterface(), inside + " is not static");
            check(!Modifier.isPublic(inside.getModifiers()) && !Modifier.isProtected(inside.getModifiers()), inside + " is seen");
            for (Method method : inside.getDeclaredMethods()) {
                privateNames.add(method.getName());
            }
        }
        privateNames.retainAll(publicNames);
        check(privateNames.isEmpty(), "bear a public name: " + privateNames);
        fields();
        check(Modifier.isFinal(PractisedWrong.class.getModifiers()), "the class is not final");
        Constructor<?>[] made = PractisedWrong.class.getDeclaredConstructors();
        check(made.length == 1 && made[0].getParameterCount() == 0 && Modifier.isPublic(made[0].getModifiers()), "the constructor");
    }

    private static void fields() {
        TreeSet<String> seen = new TreeSet<>();
        for (Field field : PractisedWrong.class.getDeclaredFields()) {
            if (!Modifier.isPrivate(field.getModifiers())) {
                seen.add(field.getName());
                int m = field.getModifiers();
                check(Modifier.isPublic(m) && Modifier.isStatic(m) && Modifier.isFinal(m) && field.getType() == int.class, "constant " + field);
            }
        }
        check(seen.equals(new TreeSet<>(Arrays.asList("BAD", "NOT", "FULL", "STATE", "VOID"))), "the constants are " + seen);
        long sum = PractisedWrong.BAD == -1 && PractisedWrong.NOT == -2 && PractisedWrong.FULL == -3 && PractisedWrong.STATE == -5 ? PractisedWrong.VOID : 0;
        check(sum == -2000000000, "the constants' numbers");
    }

    private static void text(String source) {
        String code = source.replaceAll("(?s)/\\*.*?\\*/", " ").replaceAll("//[^\n]*", " ");
        String[] ruledOut = {"throw", "throws", "try", "catch", "synchronized", "assert", "import", "package", "double", "float", "Object", "System\\.(?!arraycopy)\\w+",
            "\\w+Exact", "->", "::", "hashCode", "toString", "Random", "Thread", "native", "volatile", "transient"};
        for (String word : ruledOut) {
            boolean isWord = Character.isLetter(word.charAt(0));
            Matcher m = Pattern.compile(isWord ? "\\b" + word + "\\b" : word).matcher(code);
            check(!m.find(), "the text has " + word);
        }
        for (int i = 0; i < source.length(); i++) {
            char c = source.charAt(i);
            if (c != '\n' && (c < 32 || c > 126)) {
                check(false, "the text has the sign " + (int) c);
            }
        }
        lengths(source);
    }

    /** Methods of some sixty lines, seven parameters. */
    private static void lengths(String source) {
        String[] lines = source.split("\n");
        int from = -1;
        for (int i = 0; i < lines.length; i++) {
            if (lines[i].matches("^ {4,8}\\S.*\\) \\{$") && !lines[i].contains(" class ")) {
                from = i;
                check(lines[i].chars().filter(c -> c == ',').count() < 7, "parameters: " + lines[i]);
            }
            if (from >= 0 && lines[i].matches("^ {4,8}\\}$")) {
                check(i - from <= 60, "long: " + lines[from]);
                from = -1;
            }
        }
    }
}
