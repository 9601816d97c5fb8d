import java.io.IOException;
import java.lang.reflect.Constructor;
import java.lang.reflect.Field;
import java.lang.reflect.Method;
import java.lang.reflect.Modifier;
import java.nio.file.Files;
import java.nio.file.Path;
import java.util.ArrayList;
import java.util.List;
import java.util.Set;
import java.util.TreeSet;
import java.util.regex.Matcher;
import java.util.regex.Pattern;

/** What can be seen of LANGUAGE.md from outside: the face, the classes inside, and words that may not stand in the file. */
public final class LanguageTest {
    private static final Set<String> FACE = Set.of(
        "int house(int,int,int)", "int of(int,int)", "int earn(int,int)", "int row(int,int,int)", "int feed(int)",
        "int street()", "int told(int)", "int year()", "int at(int,int)", "int stays()", "int swings()",
        "int gift(int,int,int)", "int best(int)", "int lots()", "int build(int,int,int,int)", "int down(int)",
        "int before(int)", "int see(int,int)", "int lied(int)", "int wed(int,int)", "long odds(int,int,int)",
        "long mean(int,int)", "int book(int)", "int looked()", "int judge(int,int)", "int image()", "int undo()",
        "int act(int,int,int)", "int trace(int)", "int taken(int,int)", "int count(int)", "int tape(int,int,int)",
        "int item(int,int,long)", "long read(int,int)", "int shift(int,int,int,int,int)");
    private static final Set<String> CONSTANTS = Set.of("NONE", "BAD", "STATE", "FULL", "NO");
    private static final String[] BANNED = {"throw", "throws", "try", "catch", "synchronized", "assert", "import",
        "package", "protected", "double", "float", "Random", "System\\.(?!arraycopy)", "Thread", "equals", "hashCode",
        "toString", "Exact", "lambda", "yield", "Object", "->", "::"};
    private static final Set<String> LIBRARY = Set.of("Math", "System", "String", "Long");

    private static int wrong;

    public static void main(String[] args) throws IOException {
        face();
        inside();
        source(Files.readString(Path.of(args.length > 0 ? args[0] : "src/main/java/MiddleThree.java")));
        System.out.println(wrong == 0 ? "the rules that can be seen are kept" : wrong + " breaches");
        if (wrong != 0) {
            System.exit(1);
        }
    }

    private static void breach(boolean so, String what) {
        if (so) {
            wrong++;
            System.out.println(what);
        }
    }

    private static void face() {
        Class<?> face = MiddleThree.class;
        int kind = face.getModifiers();
        breach(!Modifier.isPublic(kind) || !Modifier.isFinal(kind), "the class is not public and final");
        Constructor<?>[] made = face.getDeclaredConstructors();
        breach(made.length != 1 || !Modifier.isPublic(made[0].getModifiers()) || made[0].getParameterCount() != 0,
            "the constructor is another");
        Set<String> found = new TreeSet<>();
        Set<String> names = new TreeSet<>();
        for (Method method : face.getDeclaredMethods()) {
            if (Modifier.isPublic(method.getModifiers())) {
                found.add(told(method));
                names.add(method.getName());
            }
        }
        breach(!found.equals(FACE), "the public methods are " + found);
        for (Class<?> type : types()) {
            for (Method method : type.getDeclaredMethods()) {
                boolean open = Modifier.isPublic(method.getModifiers()) && type == face;
                breach(type == face && !open && !Modifier.isPrivate(method.getModifiers()), method + " is open");
                breach(!open && names.contains(method.getName()), method + " bears the name of a public one");
                breach(method.getParameterCount() > 7, method + " takes too many parameters");
            }
        }
        for (Field field : face.getDeclaredFields()) {
            int how = field.getModifiers();
            boolean open = CONSTANTS.contains(field.getName());
            breach(open != Modifier.isPublic(how), field + " is open, or not");
            breach(!open && !Modifier.isPrivate(how), field + " is open");
        }
    }

    private static List<Class<?>> types() {
        List<Class<?>> types = new ArrayList<>(List.of(MiddleThree.class));
        types.addAll(List.of(MiddleThree.class.getDeclaredClasses()));
        return types;
    }

    private static String told(Method method) {
        StringBuilder told = new StringBuilder(method.getReturnType().getName());
        told.append(' ').append(method.getName()).append('(');
        for (Class<?> type : method.getParameterTypes()) {
            told.append(told.charAt(told.length() - 1) == '(' ? "" : ",").append(type.getName());
        }
        return told.append(')').toString();
    }

    private static void inside() {
        breach(types().size() > 12, "there are too many classes");
        for (Class<?> type : types()) {
            int how = type.getModifiers();
            breach(type != MiddleThree.class && (!Modifier.isStatic(how) || Modifier.isPublic(how)
                || Modifier.isProtected(how)), type + " is not static, or open");
            int fields = 0;
            for (Field field : type.getDeclaredFields()) {
                boolean constant = Modifier.isStatic(field.getModifiers());
                breach(constant && !Modifier.isFinal(field.getModifiers()), field + " is not final");
                fields += constant ? 0 : 1;
            }
            breach(fields > 20, type + " has too many fields");
        }
    }

    private static void source(String source) {
        // comments may use any word; texts and signs hold but signs of streets
        String code = source.replaceAll("(?s)/\\*.*?\\*/", "").replaceAll("//[^\n]*", "");
        for (char sign : code.toCharArray()) {
            breach(sign > 126, "a sign beyond 126: " + sign);
        }
        code = code.replaceAll("\"[^\"]*\"", "\"\"").replaceAll("'.'", "' '");
        for (String word : BANNED) {
            String pattern = Character.isLetter(word.charAt(0)) ? "\\b" + word + "\\b" : word;
            if (word.equals("Exact") || word.startsWith("System")) {
                pattern = word;
            }
            Matcher matcher = Pattern.compile(pattern).matcher(code);
            breach(matcher.find(), word + " stands in the file");
        }
        Matcher library = Pattern.compile("\\b([A-Z][A-Za-z]*[a-z][A-Za-z]*)\\.").matcher(code);
        while (library.find()) {
            breach(!LIBRARY.contains(library.group(1)), library.group(1) + " is not in the library that is left");
        }
        methods(code);
        made(code);
    }

    /** Methods have some sixty lines at most. */
    private static void methods(String code) {
        int begun = -1;
        String[] lines = code.split("\n");
        for (int i = 0; i < lines.length; i++) {
            if (lines[i].matches("( {4}| {8})\\S.*\\) \\{")) {
                begun = i;
            } else if (begun >= 0 && lines[i].matches("( {4}| {8})\\}") && indent(lines[i]) == indent(lines[begun])) {
                breach(i - begun > 60, "too long: " + lines[begun].trim());
                begun = -1;
            }
        }
    }

    private static int indent(String line) {
        return line.length() - line.stripLeading().length();
    }

    /** Objects are made with the object alone: no call takes any of the room. */
    private static void made(String code) {
        Matcher made = Pattern.compile("[^\n]*\\bnew\\b[^\n]*").matcher(code);
        while (made.find()) {
            boolean field = made.group().matches(" +(private )?final [A-Za-z]+(\\[\\])? [A-Za-z]+ = new .*");
            boolean filled = made.group().matches(" {12}(streets|tapes)\\[[a-z]\\] = new [A-Za-z]+\\(\\);");
            breach(!field && !filled, "made in a call:" + made.group());
        }
    }
}
