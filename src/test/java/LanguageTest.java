import java.io.IOException;
import java.lang.reflect.Field;
import java.lang.reflect.Method;
import java.lang.reflect.Modifier;
import java.nio.charset.StandardCharsets;
import java.nio.file.Files;
import java.nio.file.Path;
import java.util.Arrays;
import java.util.Set;
import java.util.TreeSet;
import java.util.regex.Matcher;
import java.util.regex.Pattern;

/** Those rules of ../shared/LANGUAGE.md that can be looked up in the source and in the compiled class. */
public final class LanguageTest {
    private static final Path SOURCE = Path.of("src/main/java/WindFrontiers.java");
    private static final String FACE = "int back(int)|int cell(int,int,int)|int clear()|int count(int)"
            + "|int family(int,int)|int forget()|int help(int,int)|int keep(int)|int leaves(int,int)"
            + "|int mark(int,int,int)|int moved(int)|int now(int)|int odds(int,int,int,int,int)"
            + "|int puts(int,int,int)|int saw(int,int,int,int)|int strand()|int takes(int,int,int)|int tide(int)"
            + "|int type(int)|int undo()|int veers()|int water(int,int,int)|long trace()";
    private static final String[] FORBIDDEN = {
        "\\bpackage\\b", "\\bimport\\b", "\\bthrows?\\b", "\\btry\\b", "\\bcatch\\b", "\\bsynchronized\\b",
        "\\bassert\\b", "->", "::", "\\bvar\\b", "\\bSystem\\b", "\\bequals\\b", "\\bhashCode\\b",
        "\\bObject\\b", "\\bdouble\\b", "\\bfloat\\b", "Exact\\b", "\\bstatic\\s*\\{", "@", "[^\\x00-\\x7e]"};
    private static final int MOST_CLASSES = 12;
    private static final int MOST_FIELDS = 20;
    private static final int MOST_PARAMETERS = 7;
    private static final int MOST_LINES = 60;
    private static final Due DUE = new Due("LanguageTest");

    public static void main(String[] args) throws IOException {
        face();
        insideClasses();
        words();
        methodLengths();
        DUE.end();
    }

    private static void face() {
        Class<?> type = WindFrontiers.class;
        DUE.is("public and final", type.getModifiers(), Modifier.PUBLIC | Modifier.FINAL);
        DUE.is("constructors", type.getDeclaredConstructors().length, 1);
        DUE.is("public constructors", type.getConstructors().length, 1);
        Set<String> face = new TreeSet<>();
        for (Method method : type.getDeclaredMethods()) {
            boolean isPublic = Modifier.isPublic(method.getModifiers());
            DUE.is("public or private: " + method, isPublic || Modifier.isPrivate(method.getModifiers()) ? 1 : 0, 1);
            boolean isOfFace = FACE.contains(" " + method.getName() + "(");
            DUE.is("private ones have names of their own: " + method, !isPublic && isOfFace ? 1 : 0, 0);
            if (isPublic) {
                face.add(method.toString().replace("public ", "").replace("WindFrontiers.", ""));
            }
        }
        DUE.is("the face is " + face, String.join("|", face).equals(FACE) ? 1 : 0, 1);
        DUE.is("public constants", type.getFields().length, 5);
        for (Field field : type.getDeclaredFields()) {
            int mode = field.getModifiers();
            DUE.is("public or private: " + field, Modifier.isPublic(mode) || Modifier.isPrivate(mode) ? 1 : 0, 1);
        }
    }

    private static void insideClasses() {
        Class<?>[] inside = WindFrontiers.class.getDeclaredClasses();
        DUE.is("few classes", inside.length < MOST_CLASSES ? 1 : 0, 1);
        members(WindFrontiers.class);
        for (Class<?> type : inside) {
            int mode = type.getModifiers();
            DUE.is("static: " + type, Modifier.isStatic(mode) ? 1 : 0, 1);
            DUE.is("not public: " + type, Modifier.isPublic(mode) || Modifier.isProtected(mode) ? 1 : 0, 0);
            for (Method method : type.getDeclaredMethods()) {
                boolean isOfFace = FACE.contains(" " + method.getName() + "(");
                DUE.is("no name of the face: " + method, isOfFace ? 1 : 0, 0);
            }
            members(type);
        }
    }

    private static void members(Class<?> type) {
        long fields = 0;
        for (Field field : type.getDeclaredFields()) {
            boolean isStatic = Modifier.isStatic(field.getModifiers());
            fields += isStatic ? 0 : 1;
            DUE.is("static ones are final: " + field,
                    isStatic && !Modifier.isFinal(field.getModifiers()) ? 1 : 0, 0);
        }
        DUE.is("few fields: " + type, fields <= MOST_FIELDS ? 1 : 0, 1);
        for (Method method : type.getDeclaredMethods()) {
            DUE.is("few parameters: " + method, method.getParameterCount() <= MOST_PARAMETERS ? 1 : 0, 1);
        }
    }

    private static void words() throws IOException {
        String source = Files.readString(SOURCE, StandardCharsets.ISO_8859_1);
        String code = source.replaceAll("(?s)/\\*.*?\\*/", "").replaceAll("//[^\n]*", "");
        for (String word : FORBIDDEN) {
            Matcher found = Pattern.compile(word).matcher(code);
            DUE.is("there is no " + word, found.find() ? 1 : 0, 0);
        }
        Matcher array = Pattern.compile("\\bnew\\s+\\w+\\[([^\\]]*)\\]").matcher(code);
        while (array.find()) {
            DUE.is("a constant length: " + array.group(), array.group(1).matches("[A-Z_]+") ? 1 : 0, 1);
        }
    }

    private static void methodLengths() throws IOException {
        String[] lines = Files.readString(SOURCE, StandardCharsets.ISO_8859_1).split("\n");
        int[] openAt = new int[16];
        Arrays.fill(openAt, -1);
        for (int i = 0; i < lines.length; i++) {
            int indent = (lines[i].length() - lines[i].stripLeading().length()) / 4;
            if (lines[i].endsWith(") {") && indent < openAt.length) {
                openAt[indent] = i;
            } else if (lines[i].strip().equals("}") && indent < openAt.length && openAt[indent] >= 0) {
                DUE.is("lines from " + (openAt[indent] + 1), i - openAt[indent] < MOST_LINES ? 1 : 0, 1);
                openAt[indent] = -1;
            }
        }
    }
}
