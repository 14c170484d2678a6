import java.io.IOException;
import java.lang.reflect.Constructor;
import java.lang.reflect.Field;
import java.lang.reflect.Method;
import java.lang.reflect.Modifier;
import java.nio.charset.StandardCharsets;
import java.nio.file.Files;
import java.nio.file.Path;
import java.util.TreeSet;
import java.util.regex.Matcher;
import java.util.regex.Pattern;

/** The face is the document's and no more; the file keeps to what LANGUAGE.md leaves (as far as text shows it). */
public final class FaceTest {
    private static final Path SOURCE = Path.of("src/main/java/PencilPrice.java");
    private static final Path DOCUMENT = Path.of("../shared/DOC.md");
    private static final String[] FORBIDDEN = {
        "\\bthrow\\b", "\\bthrows\\b", "\\btry\\b", "\\bcatch\\b", "\\bsynchronized\\b", "\\bassert\\b",
        "\\bimport (?!java\\.util\\.(Arrays|ArrayList|List|Iterator);)", "->", "::", "\\bSystem\\.(?!arraycopy\\b)",
        "Exact\\b", "\\bRandom\\b", "\\bMath\\.random\\b", "\\bfloat\\b", "\\bvolatile\\b", "\\btransient\\b",
        "\\bstatic \\{", "\\bclass \\w+ extends\\b", "\\bprotected\\b"
    };

    private static final Checks checks = new Checks();

    public static void main(String[] args) throws IOException {
        faceIsTheDocuments();
        constantsAreDue();
        sourceHasNothingForbidden();
        checks.end();
    }

    private static void faceIsTheDocuments() throws IOException {
        String text = Files.readString(DOCUMENT, StandardCharsets.UTF_8);
        String face = text.substring(text.indexOf("```java"), text.indexOf("## Terms"));
        TreeSet<String> wanted = new TreeSet<>();
        Matcher call = Pattern.compile("public (int|long) (\\w+)\\(([^)]*)\\);").matcher(face);
        while (call.find()) {
            StringBuilder one = new StringBuilder(call.group(1)).append(' ').append(call.group(2));
            for (String parameter : call.group(3).isEmpty() ? new String[0] : call.group(3).split(", ")) {
                one.append(' ').append(parameter.split(" ")[0]);
            }
            wanted.add(one.toString());
        }
        TreeSet<String> found = new TreeSet<>();
        for (Method method : PencilPrice.class.getDeclaredMethods()) {
            if (!Modifier.isPrivate(method.getModifiers())) {
                StringBuilder one = new StringBuilder(method.getReturnType().getName()).append(' ').append(method.getName());
                for (Class<?> parameter : method.getParameterTypes()) {
                    one.append(' ').append(parameter.getName());
                }
                found.add(one.toString());
            } else {
                checks.due("private " + method.getName() + " bears no public name",
                        !wanted.toString().contains(" " + method.getName() + " ")
                                && !wanted.toString().contains(" " + method.getName() + ","));
            }
        }
        checks.due("calls of the face", 44, wanted.size());
        checks.due("the face is " + found, wanted.equals(found));
        for (Constructor<?> constructor : PencilPrice.class.getDeclaredConstructors()) {
            checks.due("constructor", Modifier.isPublic(constructor.getModifiers()) && constructor.getParameterCount() == 0);
        }
        int modifiers = PencilPrice.class.getModifiers();
        checks.due("public final", Modifier.isPublic(modifiers) && Modifier.isFinal(modifiers));
        for (Class<?> inside : PencilPrice.class.getDeclaredClasses()) {
            checks.due(inside + " is static", Modifier.isStatic(inside.getModifiers()) && !Modifier.isPublic(inside.getModifiers()));
            for (Method method : inside.getDeclaredMethods()) {
                checks.due(method + " bears no public name",
                        !wanted.toString().matches("(?s).*\\b(int|long) " + method.getName() + "\\b.*"));
            }
            for (Field field : inside.getDeclaredFields()) {
                checks.due(field + " is a constant", !Modifier.isStatic(field.getModifiers()) || Modifier.isFinal(field.getModifiers()));
            }
        }
    }

    private static void constantsAreDue() {
        checks.due("NONE", -1, PencilPrice.NONE);
        checks.due("NOTHING", -1000000000000000000L, PencilPrice.NOTHING);
        for (Field field : PencilPrice.class.getDeclaredFields()) {
            boolean isPublic = !Modifier.isPrivate(field.getModifiers());
            boolean isNamed = field.getName().equals("NONE") || field.getName().equals("NOTHING");
            checks.due(field + " is as the face says", isPublic == isNamed);
            checks.due(field + " is final if static", !Modifier.isStatic(field.getModifiers()) || Modifier.isFinal(field.getModifiers()));
        }
    }

    private static void sourceHasNothingForbidden() throws IOException {
        String source = Files.readString(SOURCE, StandardCharsets.US_ASCII);
        String code = source.replaceAll("(?s)/\\*.*?\\*/", "").replaceAll("//[^\n]*", "").replaceAll("\"[^\"\n]*\"", "\"\"");
        for (String forbidden : FORBIDDEN) {
            Matcher found = Pattern.compile(forbidden).matcher(code);
            checks.due("rule against " + forbidden, !found.find());
        }
        checks.due("no package", !code.contains("package "));
    }
}
