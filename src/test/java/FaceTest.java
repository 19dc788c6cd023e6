import java.io.IOException;
import java.lang.reflect.Constructor;
import java.lang.reflect.Field;
import java.lang.reflect.Method;
import java.lang.reflect.Modifier;
import java.nio.file.Files;
import java.nio.file.Path;
import java.util.ArrayList;
import java.util.Collections;
import java.util.List;
import java.util.Set;
import java.util.TreeSet;
import java.util.regex.Matcher;
import java.util.regex.Pattern;

/** The public face, and those rules of LANGUAGE.md that can be seen from the outside or from the source's words. */
public final class FaceTest {
    private static final Dues DUES = new Dues("FaceTest");
    private static final String BOUNDS = "IndexOutOfBoundsException", ARGUMENT = "IllegalArgumentException", STATE = "IllegalStateException";

    public static void main(String[] args) throws IOException {
        members();
        nestedClasses();
        if (args.length != 1) {
            DUES.compare("the source's path", "missing", "the only argument");
        } else {
            words(Files.readString(Path.of(args[0])));
        }
        DUES.end();
    }

    private static List<String> faceOfTheDocument() {
        List<String> face = new ArrayList<>(List.of(
            "int NONE", "int SNOW", "int MELTING", "int WATER", "Brightband()",
            "int drops(int,int,int,int)" + BOUNDS + ARGUMENT + STATE,
            "int melt(int)" + BOUNDS,
            "int hill(int,int)" + BOUNDS + ARGUMENT,
            "int drift(int,boolean)" + ARGUMENT,
            "boolean gauge(int,boolean)" + BOUNDS,
            "boolean clog(int,boolean)" + BOUNDS,
            "int pass(int)" + ARGUMENT + STATE,
            "int scan(int)" + ARGUMENT + STATE,
            "int rule(int)" + ARGUMENT,
            "int count(int,int,int)" + BOUNDS + ARGUMENT,
            "int phase(int)" + BOUNDS,
            "long echo(int,int)" + BOUNDS + ARGUMENT,
            "long seen(int,int)" + BOUNDS + ARGUMENT,
            "long rain(int)" + BOUNDS,
            "long rainBy(int,int)" + BOUNDS + ARGUMENT,
            "int motion()" + STATE,
            "long collected(int)" + BOUNDS,
            "long ground(int)" + BOUNDS,
            "long groundAnew(int)" + BOUNDS,
            "long water(int)" + ARGUMENT));
        Collections.sort(face);
        return face;
    }

    private static void members() {
        List<String> face = new ArrayList<>();
        Set<String> publicNames = new TreeSet<>();
        for (Field field : Brightband.class.getDeclaredFields()) {
            if (!Modifier.isPrivate(field.getModifiers())) {
                face.add(field.getType().getSimpleName() + " " + field.getName());
                DUES.compare("modifiers of " + field.getName(), Modifier.toString(field.getModifiers()), "public static final");
            }
        }
        for (Constructor<?> made : Brightband.class.getDeclaredConstructors()) {
            face.add("Brightband(" + types(made.getParameterTypes(), ",") + ")");
            DUES.compare("modifiers of the constructor", Modifier.toString(made.getModifiers()), "public");
        }
        for (Method method : Brightband.class.getDeclaredMethods()) {
            if (!Modifier.isPrivate(method.getModifiers())) {
                publicNames.add(method.getName());
                face.add(method.getReturnType().getSimpleName() + " " + method.getName()
                    + "(" + types(method.getParameterTypes(), ",") + ")" + types(method.getExceptionTypes(), ""));
                DUES.compare("modifiers of " + method.getName(), Modifier.toString(method.getModifiers()), "public");
            }
        }
        Collections.sort(face);
        DUES.compare("the face", face.toString(), faceOfTheDocument().toString());
        DUES.compare("the constants", Brightband.NONE + " " + Brightband.SNOW + " " + Brightband.MELTING + " " + Brightband.WATER, "-1 0 1 2");
        DUES.compare("the class", Modifier.toString(Brightband.class.getModifiers()), "public final");
        for (Method method : Brightband.class.getDeclaredMethods()) {
            if (Modifier.isPrivate(method.getModifiers())) {
                DUES.compare("a private method's name " + method.getName(), "" + publicNames.contains(method.getName()), "false");
            }
        }
    }

    private static String types(Class<?>[] types, String between) {
        List<String> names = new ArrayList<>();
        for (Class<?> type : types) {
            names.add(type.getSimpleName());
        }
        return String.join(between, names);
    }

    private static void nestedClasses() {
        Class<?>[] nested = Brightband.class.getDeclaredClasses();
        DUES.compare("at most twelve classes", "" + (nested.length < 12), "true");
        for (Class<?> type : nested) {
            int modifiers = type.getModifiers();
            DUES.compare("static " + type, "" + Modifier.isStatic(modifiers), "true");
            DUES.compare("not public " + type, "" + (Modifier.isPublic(modifiers) || Modifier.isProtected(modifiers)), "false");
            staticState(type);
        }
        staticState(Brightband.class);
    }

    private static void staticState(Class<?> type) {
        int fields = 0;
        for (Field field : type.getDeclaredFields()) {
            if (Modifier.isStatic(field.getModifiers())) {
                DUES.compare("final " + field, "" + Modifier.isFinal(field.getModifiers()), "true");
                DUES.compare("a type for constants " + field, "" + Set.of("int", "long", "boolean", "char", "String",
                    "int[]", "long[]", "char[]", "byte[]").contains(field.getType().getSimpleName()), "true");
            } else {
                fields++;
            }
        }
        DUES.compare("at most twenty fields in " + type, "" + (fields <= 20), "true");
        for (Method method : type.getDeclaredMethods()) {
            DUES.compare("at most seven parameters " + method, "" + (method.getParameterCount() <= 7), "true");
        }
    }

    /** Words that no line of the source may hold, comments and texts aside. */
    private static void words(String source) {
        String code = source.replaceAll("(?s)/\\*.*?\\*/", "").replaceAll("//[^\n]*", "").replaceAll("\"[^\"\n]*\"", "\"\"");
        String[] banned = {"->", "::", "\\bimport\\b", "\\bpackage\\b", "\\btry\\b", "\\bcatch\\b", "\\bfinally\\b", "\\bsynchronized\\b",
            "\\bassert\\b", "\\bdefault\\s*\\(", "\\bSystem\\b", "\\bDouble\\b", "\\bFloat\\b", "\\bFunction\\b", "\\bThread\\b", "Exact\\b",
            "\\bstatic\\s*\\{", "\\bObject\\b", "\\bhashCode\\b", "\\btoString\\b", "\\binstanceof\\b", "\"\\s*\\+", "\\+\\s*\""};
        for (String word : banned) {
            DUES.compare("the source holds " + word, "" + Pattern.compile(word).matcher(code).find(), "false");
        }
        Matcher library = Pattern.compile("\\b(Math|Integer|Long|Arrays|List|String|StringBuilder)\\.(\\w+)").matcher(code);
        while (library.find()) {
            DUES.compare("the library's " + library.group(), "" + Set.of("abs", "min", "max").contains(library.group(2)), "true");
        }
        DUES.compare("all signs are 1 to 127", "" + source.chars().allMatch(c -> c >= 1 && c <= 127), "true");
    }
}
