import java.io.IOException;
import java.lang.reflect.Constructor;
import java.lang.reflect.Field;
import java.lang.reflect.Method;
import java.lang.reflect.Modifier;
import java.nio.file.Files;
import java.nio.file.Path;
import java.util.Arrays;
import java.util.Set;
import java.util.TreeSet;
import java.util.regex.Matcher;
import java.util.regex.Pattern;

/** The class has the document's face and no other, and its source keeps to rules that can be seen in it. */
public final class FaceTests {
    private static final Path SOURCE = Path.of("src/main/java/MultiValueFile.java");
    private static final Path DOCUMENT = Path.of("../shared/DOC.md");
    private static final int MOST_PARAMETERS = 7;
    private static final int MOST_LINES = 60;
    private static final int MOST_CLASSES = 12;
    private static final int MOST_FIELDS = 20;
    private static final String[] FACE = {
        "int NO_SUCH = -1000001", "int BAD_VALUE = -1000002", "int BAD_TEXT = -1000003",
        "int TOO_MANY = -1000004", "int NOT_POSSIBLE = -1000005", "int LOCKED = -1000006",
        "int NONE = -1000007", "MultiValueFile()", "int create(int)", "int delete(int, int)",
        "int lock(int, int)", "int unlock(int, int)", "int insert(int, int, int, int, int, int)",
        "int change(int, int, int, int, int, int)", "int remove(int, int, int, int, int)",
        "int removeLine(int, int, int)", "int load(int, int)", "int associate(int, boolean)",
        "int define(int, int, int, int)", "int select(int, int, int, boolean, int)",
        "int combine(int, int, int, int)", "int clearList(int)", "int append(int)", "int clearText()",
        "int fault()", "int print(int)", "int printed(int)", "int undo()", "int records()",
        "int recordAt(int)", "int locker(int)", "int values(int, int)", "int subvalues(int, int, int)",
        "int get(int, int, int, int)", "int lines(int)", "int locate(int, int, int)",
        "int column(int, int)", "int associated(int)", "int listSize(int)", "int listAt(int, int)",
        "int numbers(int, int)", "int numberAt(int, int, int)", "int exploded(int)",
        "int explodedAt(int, boolean, int, int)", "int total(int, int)", "float mean(int)",
        "int repeated(int)",
    };
    private static final String[] RULED_OUT = {
        "import", "package", "->", "::", "try", "catch", "finally", "throw", "synchronized", "assert",
        "instanceof", "equals", "hashCode", "toString", "native", "volatile", "transient", "Exact",
    };

    private static int wrong = 0;

    public static void main(String[] args) throws IOException, IllegalAccessException {
        face();
        faceOfTheDocument();
        names();
        sizes();
        source();
        System.out.println(wrong == 0 ? "the face and the source are as due" : wrong + " things are not as due");
        if (wrong != 0) {
            System.exit(1);
        }
    }

    private static void due(boolean holds, String what) {
        if (!holds) {
            wrong++;
            System.out.println("not so: " + what);
        }
    }

    private static String types(Class<?>[] types) {
        StringBuilder all = new StringBuilder();
        for (Class<?> type : types) {
            all.append(all.length() > 0 ? ", " : "").append(type.getSimpleName());
        }
        return "(" + all + ")";
    }

    /** Whatever is not private must be in the face. */
    private static void face() throws IllegalAccessException {
        Set<String> found = new TreeSet<>();
        Class<?> made = MultiValueFile.class;
        due(made.getModifiers() == (Modifier.PUBLIC | Modifier.FINAL), "the class is public and final");
        for (Field field : made.getDeclaredFields()) {
            if (!Modifier.isPrivate(field.getModifiers())) {
                due(Modifier.isPublic(field.getModifiers()) && Modifier.isFinal(field.getModifiers())
                        && Modifier.isStatic(field.getModifiers()), field.getName() + " is a public constant");
                found.add(field.getType() + " " + field.getName() + " = " + field.get(null));
            }
        }
        for (Constructor<?> constructor : made.getDeclaredConstructors()) {
            found.add(made.getSimpleName() + types(constructor.getParameterTypes()));
        }
        for (Method method : made.getDeclaredMethods()) {
            if (!Modifier.isPrivate(method.getModifiers())) {
                due(method.getModifiers() == Modifier.PUBLIC, method.getName() + " is public and no more");
                found.add(method.getReturnType() + " " + method.getName() + types(method.getParameterTypes()));
            }
        }
        Set<String> want = new TreeSet<>(Arrays.asList(FACE));
        due(found.equals(want), "the face is " + want + " and not " + found);
    }

    /** The source has each line of the document's face, in its order and below the words that it says ahead of it. */
    private static void faceOfTheDocument() throws IOException {
        String document = Files.readString(DOCUMENT);
        String source = Files.readString(SOURCE);
        String block = document.split("```java\n")[1].split("```")[0];
        int at = 0;
        for (String line : block.strip().split("\n")) {
            String want = line.endsWith(");") ? line.replace(");", ") {") : line;
            if (!line.equals("}")) {
                int found = source.indexOf(want, at);
                due(found >= 0, "the source has, in the document's order: " + want);
                at = Math.max(at, found);
            }
        }
        Matcher heading = Pattern.compile("Ahead of the calls (.*) the interface says: (----.*)\\.\n").matcher(document);
        int headings = 0;
        while (heading.find()) {
            headings++;
            String[] parts = source.split("// " + Pattern.quote(heading.group(2)) + "\n");
            due(parts.length == 2, "the source says once: " + heading.group(2));
            String part = parts[parts.length - 1].split("// ----")[0].split("private static final class")[0];
            StringBuilder calls = new StringBuilder();
            Matcher call = Pattern.compile("public \\w+ (\\w+)\\(").matcher(part);
            while (call.find()) {
                calls.append(calls.length() > 0 ? ", " : "").append('`').append(call.group(1)).append('`');
            }
            due(calls.toString().equals(heading.group(1)), "below " + heading.group(2) + " come " + heading.group(1));
        }
        due(headings == 6, "the document has six headings of calls, and not " + headings);
    }

    /** Bounds that the language names for the file, for classes and for methods. */
    private static void sizes() throws IOException {
        Class<?>[] inside = MultiValueFile.class.getDeclaredClasses();
        due(inside.length < MOST_CLASSES, "the file has few classes");
        Class<?>[] all = Arrays.copyOf(inside, inside.length + 1);
        all[inside.length] = MultiValueFile.class;
        int methods = 0;
        for (Class<?> one : all) {
            methods += one.getDeclaredMethods().length + one.getDeclaredConstructors().length;
            due(Arrays.stream(one.getDeclaredFields()).filter(field -> !Modifier.isStatic(field.getModifiers())).count()
                    <= MOST_FIELDS, one + " has few fields");
            for (Method method : one.getDeclaredMethods()) {
                due(method.getParameterCount() <= MOST_PARAMETERS, method + " has few parameters");
            }
        }
        Matcher body = Pattern.compile("(?m)^( {4}| {8})(?!if|for|while|switch|do|\\})(\\S.*\\)) \\{\n((.*\n)*?)\\1\\}$")
                .matcher(Files.readString(SOURCE));
        int bodies = 0;
        while (body.find()) {
            bodies++;
            due(body.group(3).lines().count() <= MOST_LINES, body.group(2) + " is short");
        }
        due(bodies == methods, "the source has " + methods + " methods and constructors, and not " + bodies);
    }

    /** No method of a class inside, and no private one, bears the name of a public one. */
    private static void names() {
        Set<String> taken = new TreeSet<>();
        for (Method method : MultiValueFile.class.getMethods()) {
            taken.add(method.getName());
        }
        for (Method method : MultiValueFile.class.getDeclaredMethods()) {
            due(Modifier.isPublic(method.getModifiers()) || !taken.contains(method.getName()), method + " has its own name");
        }
        for (Class<?> inside : MultiValueFile.class.getDeclaredClasses()) {
            due(Modifier.isStatic(inside.getModifiers()), inside + " is static");
            for (Method method : inside.getDeclaredMethods()) {
                due(!taken.contains(method.getName()), method + " has its own name");
            }
        }
    }

    private static void source() throws IOException {
        String text = Files.readString(SOURCE);
        due(text.chars().allMatch(sign -> sign == '\n' || (sign >= 32 && sign < 127)), "all signs are plain");
        String code = text.replaceAll("(?s)/\\*.*?\\*/", "").replaceAll("//[^\n]*", "");
        for (String word : RULED_OUT) {
            String pattern = Character.isLetter(word.charAt(0)) ? "\\b" + word + "\\b" : Pattern.quote(word);
            Matcher matcher = Pattern.compile(pattern).matcher(code);
            due(!matcher.find(), "the source does without " + word);
        }
        due(!Pattern.compile("static\\s*\\{").matcher(code).find(), "there is no static block");
        due(!Pattern.compile("static\\s+final\\s+(float|double)\\b").matcher(code).find(),
                "no constant is a float or a double");
        onlyConstructorsMakeObjects(code);
    }

    /** The room of a run is small: no call makes anything. */
    private static void onlyConstructorsMakeObjects(String code) {
        Pattern constructor = Pattern.compile("(public )?[A-Z]\\w*\\([^)]*\\) \\{");
        Pattern method = Pattern.compile("(\\w+ )+[a-z]\\w*\\([^)]*\\) \\{");
        boolean isInConstructor = false;
        for (String line : code.split("\n")) {
            if (constructor.matcher(line.strip()).matches()) {
                isInConstructor = true;
            } else if (method.matcher(line.strip()).matches()) {
                isInConstructor = false;
            }
            due(isInConstructor || !line.matches(".*\\bnew\\b.*"), "only constructors make objects: " + line);
        }
    }
}
