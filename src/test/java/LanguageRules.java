import java.io.IOException;
import java.lang.reflect.Constructor;
import java.lang.reflect.Field;
import java.lang.reflect.Method;
import java.lang.reflect.Modifier;
import java.nio.file.Files;
import java.nio.file.Path;
import java.util.Arrays;
import java.util.List;
import java.util.TreeSet;
import java.util.regex.Matcher;
import java.util.regex.Pattern;

/** The document's face, and those rules of LANGUAGE.md that can be seen from the class and its source. */
public final class LanguageRules {
    private static final Path SOURCE = Path.of("src/main/java/SturmianWords.java");

    private static final List<String> FACE = List.of(
        "INVALID_ARGUMENT", "TOO_LONG", "NOT_FOUND", "SturmianWords()",
        "setSlope(int, int)", "setIntercept(int)", "slopeNumerator()", "slopeDenominator()",
        "continuedFractionTerm(int)", "mechanicalLetter(int, boolean)", "loadMechanical(int, boolean)",
        "loadStandard(int)", "append(int)", "removeLast()", "clear()", "reverse()", "applyMorphism(int)",
        "invertMorphism(int)", "undo()", "length()", "weight()", "letterAt(int)", "factorCount(int)",
        "factorAt(int, int)", "unbalancedLength()", "palindromeCount()", "longestPalindromicPrefix()",
        "leastPeriod()", "isCentral()", "simplestSlope(int)", "gapSizeCount(int)", "gapSize(int, int)",
        "gapsOfSize(int, int)", "historySize()");

    private static int wrong = 0;

    private static void due(boolean holds, String what) {
        if (!holds) {
            wrong++;
            System.out.println("broken: " + what);
        }
    }

    public static void main(String[] args) throws IOException {
        face();
        members(SturmianWords.class);
        for (Class<?> inside : SturmianWords.class.getDeclaredClasses()) {
            due(Modifier.isStatic(inside.getModifiers()), "rule 1 and 2: " + inside + " is static");
            due(!Modifier.isPublic(inside.getModifiers()), "rule 1: " + inside + " is not public");
            due(!Modifier.isProtected(inside.getModifiers()), "rule 1: " + inside + " is not protected");
            members(inside);
        }
        due(SturmianWords.class.getDeclaredClasses().length <= 12, "rule 11: at most twelve classes");
        source();
        System.out.println(wrong == 0 ? "the face and the rules hold" : wrong + " rules are broken");
        if (wrong != 0) {
            System.exit(1);
        }
    }

    private static void face() {
        TreeSet<String> found = new TreeSet<>();
        for (Field field : SturmianWords.class.getDeclaredFields()) {
            if (!Modifier.isPrivate(field.getModifiers())) {
                found.add(field.getName());
                due(Modifier.isPublic(field.getModifiers()) && Modifier.isStatic(field.getModifiers())
                    && field.getType() == int.class, "face: " + field);
            }
        }
        for (Constructor<?> constructor : SturmianWords.class.getDeclaredConstructors()) {
            found.add("SturmianWords" + parameters(constructor.getParameterTypes()));
            due(Modifier.isPublic(constructor.getModifiers()), "face: " + constructor);
        }
        for (Method method : SturmianWords.class.getDeclaredMethods()) {
            if (!Modifier.isPrivate(method.getModifiers())) {
                found.add(method.getName() + parameters(method.getParameterTypes()));
                due(Modifier.isPublic(method.getModifiers()) && !Modifier.isStatic(method.getModifiers())
                    && method.getReturnType() == int.class, "face: " + method);
            }
        }
        due(found.equals(new TreeSet<>(FACE)), "face: it is " + found);
        due(Modifier.isFinal(SturmianWords.class.getModifiers()), "face: the class is final");
        due(SturmianWords.class.getPackageName().isEmpty(), "face: the class has no package");
        due(SturmianWords.class.getSuperclass() == Object.class, "face: the class extends nothing");
    }

    private static String parameters(Class<?>[] types) {
        return "(" + String.join(", ", Arrays.stream(types).map(Class::getName).toList()) + ")";
    }

    private static void members(Class<?> owner) {
        int fields = 0;
        for (Field field : owner.getDeclaredFields()) {
            boolean isStatic = Modifier.isStatic(field.getModifiers());
            due(!isStatic || Modifier.isFinal(field.getModifiers()), "rule 5: " + field + " is final");
            fields += isStatic ? 0 : 1;
        }
        due(fields <= 20, "rule 11: " + owner + " has at most twenty fields");
        for (Method method : owner.getDeclaredMethods()) {
            due(method.getParameterCount() <= 7, "rule 11: " + method + " takes at most seven parameters");
            boolean named = FACE.stream().anyMatch(member -> member.startsWith(method.getName() + "("));
            boolean ofFace = owner == SturmianWords.class && Modifier.isPublic(method.getModifiers());
            due(ofFace || !named, "rule 1: " + method + " does not bear a public one's name");
        }
    }

    private static void source() throws IOException {
        String text = Files.readString(SOURCE);
        due(text.chars().allMatch(sign -> sign < 128), "rule 3: the source is plain ASCII");
        String code = text.replaceAll("(?s)/\\*.*?\\*/", " ").replaceAll("//[^\n]*", " ");
        String[] words = {"throw", "throws", "try", "catch", "finally", "synchronized", "assert", "volatile",
            "transient", "native", "package", "protected", "Object", "Random", "Thread", "hashCode", "toString", "var"};
        for (String word : words) {
            due(!Pattern.compile("\\b" + word + "\\b").matcher(code).find(), "rules: the source holds " + word);
        }
        due(!code.contains("->") && !code.contains("::"), "rule 2: no lambda and no method reference");
        due(!code.contains("Exact"), "rule 4: no function whose name ends in Exact");
        Matcher imports = Pattern.compile("import\\s+([^;]+);").matcher(code);
        while (imports.find()) {
            due(List.of("java.util.Arrays", "java.util.ArrayList", "java.util.List").contains(imports.group(1).trim()),
                "rule 4: import of " + imports.group(1));
        }
    }
}
