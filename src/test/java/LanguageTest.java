import java.io.IOException;
import java.lang.reflect.Field;
import java.lang.reflect.Method;
import java.lang.reflect.Modifier;
import java.nio.file.Files;
import java.nio.file.Path;
import java.util.ArrayList;
import java.util.HashSet;
import java.util.List;
import java.util.Set;
import java.util.regex.Pattern;

/** Those rules of ../shared/LANGUAGE.md that can be told from the source's words and from the classes. */
public final class LanguageTest {
    private static final Due due = new Due("LanguageTest");
    private static final Path SOURCE = Path.of("src/main/java/SequencedBatches.java");
    private static final int MOST_CLASSES = 12;
    private static final int MOST_FIELDS = 20;
    private static final int MOST_PARAMETERS = 7;

    public static void main(String[] args) throws IOException {
        List<Class<?>> classes = new ArrayList<>();
        classes.add(SequencedBatches.class);
        classes.addAll(List.of(SequencedBatches.class.getDeclaredClasses()));
        due.is("classes within " + MOST_CLASSES, classes.size() <= MOST_CLASSES, true);
        for (Class<?> each : classes) {
            fieldsAreWithinTheRules(each);
            methodsAreWithinTheRules(each);
        }
        wordsThatAreNotThere();
        due.end();
    }

    private static void fieldsAreWithinTheRules(Class<?> each) {
        int own = 0;
        for (Field field : each.getDeclaredFields()) {
            boolean isStatic = Modifier.isStatic(field.getModifiers());
            boolean isFinal = Modifier.isFinal(field.getModifiers());
            due.is("rule 5, " + field, !isStatic || isFinal, true);
            own += isStatic ? 0 : 1;
        }
        due.is("rule 11, fields of " + each.getName(), own <= MOST_FIELDS, true);
    }

    private static void methodsAreWithinTheRules(Class<?> each) {
        Set<String> face = new HashSet<>();
        for (Method method : SequencedBatches.class.getDeclaredMethods()) {
            if (Modifier.isPublic(method.getModifiers())) {
                face.add(method.getName());
            }
        }
        for (Method method : each.getDeclaredMethods()) {
            boolean isPublic = Modifier.isPublic(method.getModifiers());
            due.is("rule 1, " + method, isPublic || !face.contains(method.getName()), true);
            due.is("rule 11, " + method, method.getParameterCount() <= MOST_PARAMETERS, true);
        }
    }

    private static void wordsThatAreNotThere() throws IOException {
        String source = Files.readString(SOURCE);
        String[] words = {
            "^package ", "^import ", "->", "::", "\\bthrow\\b", "\\btry\\b", "\\bfinally\\b", "\\bsynchronized\\b",
            "\\bassert\\b", "\\bequals\\b", "\\bhashCode\\b", "\\btoString\\b", "\\bThread\\b",
            "\\bSystem\\.(?!arraycopy\\b)", "static \\{", "Exact\\(", "\\bdouble\\b", "\\bfloat\\b", "\\bvar\\b",
        };
        for (String word : words) {
            boolean found = Pattern.compile(word, Pattern.MULTILINE).matcher(source).find();
            due.is("the source has " + word, found, false);
        }
    }
}
