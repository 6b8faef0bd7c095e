import java.lang.reflect.Constructor;
import java.lang.reflect.Field;
import java.lang.reflect.Method;
import java.lang.reflect.Modifier;
import java.nio.file.Files;
import java.nio.file.Path;
import java.util.ArrayList;
import java.util.List;
import java.util.Map;
import java.util.Set;
import java.util.TreeSet;
import java.util.regex.Matcher;
import java.util.regex.Pattern;

/** The face of the class, and what can be told of LANGUAGE.md's rules from the source's text. */
public final class LanguageTest {
    private static final Set<String> FACE = Set.of("int type(int,int)", "int wipe(int)", "int undo(int)", "int read(int,int)",
        "int depth(int)", "int fault(int,int)", "int within(int)", "int bar(int)", "int alike(int,int)", "int again(int,int)",
        "int plays(int)", "int often(int)", "int score(int)", "int same()", "int first()", "int span(int,int,int,int)",
        "int found(int)", "int shown(int)", "int mend(int)", "int sheet(int,int,int)", "int lose(int)",
        "int lay(int,int,int,int)", "int get(int,int,int)", "int copy(int,int,int,int,int)", "int write(int)",
        "int count(int)", "long digest()");

    public static void main(String[] args) throws Exception {
        checkFace();
        String root = args.length > 0 ? args[0] : ".";
        String source = Files.readString(Path.of(root, "src/main/java/ScoreForms.java"));
        checkDocument(Path.of(root, "..", "shared", "DOC.md"), source);
        checkWords(withoutComments(source));
        checkMethods(withoutComments(source));
        Check.end();
    }

    private static void checkFace() {
        Set<String> methods = new TreeSet<>();
        Set<String> names = new TreeSet<>();
        for (Method method : ScoreForms.class.getDeclaredMethods()) {
            if (Modifier.isPublic(method.getModifiers())) {
                methods.add(told(method));
                names.add(method.getName());
            } else {
                checkPrivate(method.getName(), method.getModifiers());
            }
        }
        Check.due("the public methods", methods.toString(), new TreeSet<>(FACE).toString());
        Set<String> constants = new TreeSet<>();
        for (Field field : ScoreForms.class.getDeclaredFields()) {
            if (Modifier.isPublic(field.getModifiers())) {
                constants.add(field.getName());
            } else {
                checkPrivate(field.getName(), field.getModifiers());
            }
        }
        Check.due("the public constants", constants.toString(), "[BAD, FULL, NONE, NOT]");
        for (Constructor<?> constructor : ScoreForms.class.getDeclaredConstructors()) {
            Check.due("constructor", constructor.toString(), "public ScoreForms()");
        }
        for (Class<?> inside : ScoreForms.class.getDeclaredClasses()) {
            Check.due(inside + " is static", Modifier.isStatic(inside.getModifiers()) ? 1 : 0, 1);
            for (Method method : inside.getDeclaredMethods()) {
                Check.due(method + " bears a public name", names.contains(method.getName()) ? 1 : 0, 0);
            }
            Check.due("fields of " + inside, instanceFields(inside) <= 20 ? 1 : 0, 1);
        }
        Check.due("fields", instanceFields(ScoreForms.class) <= 20 ? 1 : 0, 1);
        Check.due("classes", ScoreForms.class.getDeclaredClasses().length + 1 <= 12 ? 1 : 0, 1);
    }

    /** The face as the document has it now, and what it says that the interface says ahead of each group of calls. */
    private static void checkDocument(Path document, String source) throws Exception {
        Set<String> face = new TreeSet<>(Document.face(document));
        if (!face.isEmpty()) {
            Set<String> due = new TreeSet<>(FACE);
            due.add("ScoreForms()");
            Check.due("the document's face", face.toString(), due.toString());
            checkConstants(Files.readString(document));
        }
        for (Map.Entry<String, List<String>> group : Document.groups(document).entrySet()) {
            int at = source.indexOf("// ---- " + group.getKey() + "\n");
            int end = source.indexOf("// ---- ", at + 1);
            List<String> calls = new ArrayList<>();
            Matcher call = Pattern.compile("(?m)^    public \\w+ (\\w+)\\(").matcher(at < 0 ? "" : source.substring(at, end));
            while (call.find()) {
                calls.add(call.group(1));
            }
            Check.due("calls behind ---- " + group.getKey(), calls.toString(), group.getValue().toString());
        }
    }

    private static void checkConstants(String document) throws Exception {
        Matcher line = Pattern.compile("(?m)^    public static final int (.*);$").matcher(document);
        Check.due("the document's constants", line.find() ? 1 : 0, 1);
        for (String constant : line.group(1).split(", ")) {
            String[] told = constant.split(" = ");
            Check.due(told[0], ScoreForms.class.getField(told[0]).getInt(null), Integer.parseInt(told[1]));
        }
    }

    private static int instanceFields(Class<?> one) {
        int fields = 0;
        for (Field field : one.getDeclaredFields()) {
            fields += Modifier.isStatic(field.getModifiers()) ? 0 : 1;
        }
        return fields;
    }

    private static void checkPrivate(String name, int modifiers) {
        Check.due(name + " is private", Modifier.isPrivate(modifiers) ? 1 : 0, 1);
    }

    private static String told(Method method) {
        List<String> types = new ArrayList<>();
        for (Class<?> type : method.getParameterTypes()) {
            types.add(type.getName());
        }
        return method.getReturnType().getName() + " " + method.getName() + "(" + String.join(",", types) + ")";
    }

    private static String withoutComments(String source) {
        return source.replaceAll("(?s)/\\*.*?\\*/", "").replaceAll("//[^\n]*", "");
    }

    private static void checkWords(String code) {
        for (String word : new String[] {"throw", "throws", "try", "catch", "synchronized", "assert", "import", "package",
            "volatile", "transient", "native", "Object", "hashCode", "toString", "->", "::", "@\\w+"}) {
            Matcher matcher = Pattern.compile(word.matches("\\w+") ? "\\b" + word + "\\b" : word).matcher(code);
            Check.due("the source has " + word, matcher.find() ? 1 : 0, 0);
        }
        Matcher library = Pattern.compile("\\b(Math|System|Integer|Long|Arrays)\\.(\\w+)").matcher(code);
        Set<String> allowed = Set.of("Math.min", "Math.max", "System.arraycopy");
        while (library.find()) {
            Check.due("the library's " + library.group(), allowed.contains(library.group()) ? 1 : 0, 1);
        }
        Matcher made = Pattern.compile("(?m)^(.*)\\bnew\\b.*$").matcher(code);
        while (made.find()) {
            // Fields and constructors alone make objects: then no run of calls can fill the room.
            boolean once = made.group(1).matches("\\s*(private |final )*[\\w\\[\\]]+ \\w+ = .*|\\s*(bytes|codes) = ");
            Check.due("made in a call: " + made.group().trim(), once ? 1 : 0, 1);
        }
    }

    private static void checkMethods(String code) {
        Matcher header = Pattern.compile("(?m)^( +)(?:\\w+ )*\\w+\\(([^)]*)\\) \\{$").matcher(code);
        int methods = 0;
        while (header.find()) {
            if (header.group().trim().matches("(if|for|while|switch) .*")) {
                continue;
            }
            methods++;
            int end = code.indexOf("\n" + header.group(1) + "}", header.start());
            long lines = code.substring(header.start(), end).lines().count() + 1;
            Check.due(header.group().trim() + " has " + lines + " lines", lines <= 60 ? 1 : 0, 1);
            int parameters = header.group(2).isEmpty() ? 0 : header.group(2).split(",").length;
            Check.due(header.group().trim() + " has " + parameters + " parameters", parameters <= 7 ? 1 : 0, 1);
        }
        Check.due("methods were seen", methods > 60 ? 1 : 0, 1);
    }
}
