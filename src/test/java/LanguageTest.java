import java.lang.reflect.Constructor;
import java.lang.reflect.Field;
import java.lang.reflect.Method;
import java.lang.reflect.Modifier;
import java.nio.charset.StandardCharsets;
import java.nio.file.Files;
import java.nio.file.Path;
import java.util.ArrayList;
import java.util.Arrays;
import java.util.List;
import java.util.TreeSet;
import java.util.regex.Matcher;
import java.util.regex.Pattern;

/** What of ../shared/LANGUAGE.md can be seen from the source's words and from the compiled class. */
public final class LanguageTest {
    private static final String[] FACE = {"feed int long", "flag", "fault", "told int", "seam int int", "strip int int",
        "flies int", "unpick int int", "sew int int", "hem int boolean", "fray int", "dye int int", "drift int", "cut int int",
        "lasts int int", "hems int int", "thread int int", "odds int int", "turnsOf int int int int", "colours int",
        "left int int", "fits", "sure int", "write int int", "tear", "judge", "seed int", "keep int", "goBack int"};
    private static final String[] BANNED = {"\\bthrow\\b", "\\bthrows\\b", "\\btry\\b", "\\bcatch\\b", "\\bfinally\\b",
        "\\bsynchronized\\b", "\\bassert\\b", "\\bimport\\b", "\\bpackage\\b", "\\binstanceof\\b", "->", "::", "@",
        "\\bException\\b", "\\bequals\\b", "\\bhashCode\\b", "\\btoString\\b", "\\bvolatile\\b", "\\bvar\\b", "\\bObject\\b",
        "static \\{", "\\bfloat\\b", "\\bdouble\\b", "\\bExact\\b", "\\bprotected\\b", "[^\\x00-\\x7f]"};
    private static final int LINES_MOST = 60, FIELDS_MOST = 20, CLASSES_MOST = 12, PARAMETERS_MOST = 7;

    private static final List<String> wrongs = new ArrayList<>();

    public static void main(String[] args) throws Exception {
        String source = Files.readString(Path.of("src/main/java/StripFlag.java"), StandardCharsets.ISO_8859_1);
        String code = source.replaceAll("(?s)/\\*.*?\\*/", " ").replaceAll("//[^\n]*", "");
        for (String banned : BANNED) {
            Matcher m = Pattern.compile(banned).matcher(code);
            if (m.find()) wrongs.add("the source has '" + m.group() + "'");
        }
        nothingIsMadeInCalls(code);
        methodsAreShort(source);
        faceIsTheDocuments();
        classesAreSmall();
        for (String wrong : wrongs) System.out.println(wrong);
        System.out.println("LanguageTest: " + wrongs.size() + " rules broken");
        if (!wrongs.isEmpty()) System.exit(1);
    }

    /** All calls of a run live in one room: what is needed is made with the object, in its fields. */
    private static void nothingIsMadeInCalls(String code) {
        for (String line : code.split("\n")) {
            boolean isField = line.matches("( {4}| {8})(private )?(final )?\\w+(\\[\\])* \\w+ = .*");
            if (line.matches(".*\\bnew\\b.*") && !isField) wrongs.add("something is made in a call: " + line.trim());
        }
    }

    private static void methodsAreShort(String source) {
        String start = null;
        int lines = 0;
        for (String line : source.split("\n")) {
            if (line.matches("( {4}| {8})[a-z].*\\) \\{")) {
                start = line.trim();
                lines = 0;
            }
            lines++;
            if (start != null && line.matches("( {4}| {8})\\}")) {
                if (lines > LINES_MOST) wrongs.add(lines + " lines: " + start);
                start = null;
            }
        }
    }

    private static String said(Method m) {
        StringBuilder s = new StringBuilder(m.getName());
        for (Class<?> type : m.getParameterTypes()) s.append(" ").append(type.getName());
        return s.toString();
    }

    private static void faceIsTheDocuments() throws Exception {
        TreeSet<String> want = new TreeSet<>(Arrays.asList(FACE)), got = new TreeSet<>();
        for (Method m : StripFlag.class.getDeclaredMethods()) {
            boolean isPublic = Modifier.isPublic(m.getModifiers());
            if (isPublic) got.add(said(m));
            if (isPublic && m.getReturnType() != int.class) wrongs.add(m + " does not answer an int");
            if (!isPublic && !Modifier.isPrivate(m.getModifiers())) wrongs.add(m + " is neither public nor private");
        }
        if (!want.equals(got)) wrongs.add("the face is " + got);
        Constructor<?>[] made = StripFlag.class.getDeclaredConstructors();
        if (made.length != 1 || made[0].getParameterCount() != 0) wrongs.add("constructors");
        if (!Modifier.isFinal(StripFlag.class.getModifiers())) wrongs.add("the class is not final");
        int constants = 0;
        for (Field f : StripFlag.class.getDeclaredFields()) {
            if (Modifier.isPublic(f.getModifiers())) constants++;
            else if (!Modifier.isPrivate(f.getModifiers())) wrongs.add(f + " is neither public nor private");
        }
        if (constants != 5) wrongs.add(constants + " public constants");
    }

    private static void classesAreSmall() {
        TreeSet<String> publics = new TreeSet<>();
        for (String face : FACE) publics.add(face.split(" ")[0]);
        List<Class<?>> all = new ArrayList<>(Arrays.asList(StripFlag.class.getDeclaredClasses()));
        if (all.size() + 1 > CLASSES_MOST) wrongs.add(all.size() + " classes inside");
        for (Class<?> inside : all) {
            int kind = inside.getModifiers();
            if (!Modifier.isStatic(kind) || !Modifier.isPrivate(kind)) wrongs.add(inside + " is not private and static");
            for (Method m : inside.getDeclaredMethods()) {
                if (publics.contains(m.getName())) wrongs.add(m + " bears the name of a public one");
            }
        }
        all.add(StripFlag.class);
        for (Class<?> one : all) {
            int fields = 0;
            for (Field f : one.getDeclaredFields()) {
                boolean isStatic = Modifier.isStatic(f.getModifiers());
                if (isStatic && !Modifier.isFinal(f.getModifiers())) wrongs.add(f + " is static and changes");
                if (!isStatic) fields++;
            }
            if (fields > FIELDS_MOST) wrongs.add(one + " has " + fields + " fields");
            for (Method m : one.getDeclaredMethods()) {
                if (m.getParameterCount() > PARAMETERS_MOST) wrongs.add(m + " takes too many parameters");
            }
        }
    }
}
