import java.io.IOException;
import java.lang.reflect.Field;
import java.lang.reflect.Method;
import java.lang.reflect.Modifier;
import java.nio.file.Files;
import java.nio.file.Path;
import java.util.ArrayList;
import java.util.List;
import java.util.TreeSet;
import java.util.regex.Matcher;
import java.util.regex.Pattern;

/** The public face as the document tells it, and those rules of LANGUAGE.md that can be seen from outside. */
public final class FaceTest {
    private static final String[] FACE = {
        "int game(int)", "int holder(int)", "int word(int)", "int type(int)", "int clear()", "int read()",
        "int guess(int)", "int secret(int)", "int anew()", "int undo()", "int of(int,int)", "int mask(int,int)",
        "int answer(int)", "int parts(int,int)", "int best()", "int surely(int)", "int next(int)",
        "int ends(int,int)", "int mean(int)", "int luck(int)", "int against(int)", "int note(int,int,int,int)",
        "int mark(int,int,int)", "int forget(int)", "int is()", "int look()", "int kinds()", "int ask()",
        "int evenings(int,int)", "long part(int)", "int image(int)", "int from(int)", "int status(int)",
        "int count(int)", "long digest()"};
    private static final String[] RULED_OUT = {"throw", "throws", "try", "catch", "synchronized", "assert", "import",
        "package", "->", "::", "System.out", "System.err", "Exact(", "hashCode", "toString"};

    private static final List<String> faults = new ArrayList<>();

    public static void main(String[] args) throws IOException {
        publicMembers();
        privateNames();
        source(Files.readString(Path.of("src/main/java/HangedWords.java")));
        for (String fault : faults) {
            System.out.println(fault);
        }
        System.out.println("face and language looked at, " + faults.size() + " faults");
        if (!faults.isEmpty()) {
            System.exit(1);
        }
    }

    private static void due(String what, Object got, Object want) {
        if (!got.equals(want)) {
            faults.add(what + " is " + got + ", due is " + want);
        }
    }

    private static void publicMembers() {
        TreeSet<String> methods = new TreeSet<>();
        for (Method m : HangedWords.class.getDeclaredMethods()) {
            if (!Modifier.isPrivate(m.getModifiers())) {
                String takes = m.toString().replaceAll(".*\\((.*)\\).*", "$1");
                methods.add(m.getReturnType() + " " + m.getName() + "(" + takes + ")");
                due(m.getName(), Modifier.toString(m.getModifiers()), "public");
            }
        }
        due("the face", methods, new TreeSet<>(List.of(FACE)));
        TreeSet<String> constants = new TreeSet<>();
        for (Field f : HangedWords.class.getDeclaredFields()) {
            if (!Modifier.isPrivate(f.getModifiers())) {
                constants.add(Modifier.toString(f.getModifiers()) + " " + f.getType() + " " + f.getName());
            }
            if (Modifier.isStatic(f.getModifiers()) && !Modifier.isFinal(f.getModifiers())) {
                faults.add(f.getName() + " is static state");
            }
        }
        due("the constants", constants, new TreeSet<>(List.of("public static final int NONE",
                "public static final int BAD", "public static final int NO", "public static final int FULL")));
        due("constructors", HangedWords.class.getDeclaredConstructors().length, 1);
        due("the class", Modifier.toString(HangedWords.class.getModifiers()), "public final");
    }

    private static void privateNames() {
        TreeSet<String> names = new TreeSet<>();
        for (String member : FACE) {
            names.add(member.replaceAll(".* (.*)\\(.*", "$1"));
        }
        List<Class<?>> classes = new ArrayList<>(List.of(HangedWords.class.getDeclaredClasses()));
        for (Class<?> inside : classes) {
            due(inside.getName() + " is static", Modifier.isStatic(inside.getModifiers()), true);
        }
        due("classes are few", classes.size() <= 11, true);
        classes.add(HangedWords.class);
        for (Class<?> c : classes) {
            for (Method m : c.getDeclaredMethods()) {
                boolean own = c == HangedWords.class && Modifier.isPublic(m.getModifiers());
                if (!own && names.contains(m.getName())) {
                    faults.add(c.getName() + "." + m.getName() + " bears a public method's name");
                }
                if (m.getParameterCount() > 7) {
                    faults.add(m.getName() + " takes more than seven");
                }
            }
        }
    }

    private static void source(String whole) {
        String code = whole.replaceAll("(?s)/\\*.*?\\*/", "").replaceAll("//.*", "").replaceAll("\"[^\"\n]*\"", "\"\"");
        for (String word : RULED_OUT) {
            String pattern = Character.isLetter(word.charAt(0)) ? "\\b" + Pattern.quote(word) + "(?!\\w)" : Pattern.quote(word);
            if (Pattern.compile(pattern).matcher(code).find()) {
                faults.add("the source has " + word);
            }
        }
        int lines = 0;
        Matcher starts = Pattern.compile("(?m)^( {4}| {8})(?! ).*\\) \\{$").matcher(code);
        while (starts.find()) {
            int end = code.indexOf("\n" + starts.group(1) + "}", starts.start());
            lines = (int) code.substring(starts.start(), Math.max(end, starts.start())).lines().count();
            if (lines > 60) {
                faults.add("a method of " + lines + " lines: " + starts.group().trim());
            }
        }
        due("methods were found", lines > 0, true);
    }
}
