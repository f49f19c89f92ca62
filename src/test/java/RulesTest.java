import java.io.IOException;
import java.lang.reflect.Field;
import java.lang.reflect.Method;
import java.lang.reflect.Modifier;
import java.nio.charset.StandardCharsets;
import java.nio.file.Files;
import java.nio.file.Path;
import java.util.Set;
import java.util.TreeSet;
import java.util.regex.Matcher;
import java.util.regex.Pattern;

/** Rules of LANGUAGE.md that can be seen from the source and from the compiled class; run in the project's folder. */
final class RulesTest {
    private static final String FACE = "size(int,int)int set(int,int,int,int)int at(int,int,int)int det(int)long "
        + "diagonal(int)long character(int,int)long feed(long,int)int text()int equation(int,int)int of(int,int)int "
        + "change(int,int,int)int right(int,int,int)long solution(int,int,int,int)long base(int,int,int,int,int)long "
        + "witness(int,int,int,int)long similar(int)int whole(int)long lower(int,int)int swapped()int stable()int "
        + "lay(int,int)int judge(int,int,int)int kinds(int,int)int ratio(long,long,int)long seed(int)int lot()int "
        + "times(int,int)int sheet(int,int,int)int put(int,int,long)int item(int,int,int)int "
        + "move(int,int,int,int,int)int shelf(int,int,int)int taken(int,int)int act(int,int,int)int trace(int)int "
        + "many(int)int keep()int again()int";

    public static void main(String[] args) throws IOException {
        face();
        fields(TwoSidedTables.class);
        String source = Files.readString(Path.of("src/main/java/TwoSidedTables.java"), StandardCharsets.UTF_8);
        source(source);
        methods(source);
        Due.end();
    }

    private static void never(String rule, boolean broken) {
        Due.is(rule, broken ? 1 : 0, 0);
    }

    private static void face() {
        Class<?> c = TwoSidedTables.class;
        never("1: public and final", c.getModifiers() != (Modifier.PUBLIC | Modifier.FINAL));
        never("1: one constructor", c.getDeclaredConstructors().length != 1 || c.getConstructors().length != 1);
        Set<String> face = new TreeSet<>(Set.of(FACE.split(" ")));
        Set<String> names = new TreeSet<>();
        Set<String> found = new TreeSet<>();
        for (String call : face) {
            names.add(call.substring(0, call.indexOf('(')));
        }
        for (Method method : c.getDeclaredMethods()) {
            if (Modifier.isPrivate(method.getModifiers()) || method.isSynthetic()) {
                never("1: private and public " + method.getName(), names.contains(method.getName()));
                continue;
            }
            found.add(told(method));
        }
        never("1: the face is " + found, !found.equals(face));
        for (Class<?> inner : c.getDeclaredClasses()) {
            never("2: " + inner + " is not static", !Modifier.isStatic(inner.getModifiers()));
            for (Method method : inner.getDeclaredMethods()) {
                never("1: " + method + " has a name of the face", names.contains(method.getName()));
                never("11: parameters of " + method, method.getParameterCount() > 7);
            }
            fields(inner);
        }
        never("11: classes", c.getDeclaredClasses().length > 11);
    }

    private static String told(Method method) {
        StringBuilder s = new StringBuilder(method.getName()).append('(');
        for (Class<?> type : method.getParameterTypes()) {
            s.append(s.charAt(s.length() - 1) == '(' ? "" : ",").append(type.getName());
        }
        return s.append(')').append(method.getReturnType().getName()).toString();
    }

    private static void fields(Class<?> c) {
        int held = 0;
        for (Field field : c.getDeclaredFields()) {
            boolean isStatic = Modifier.isStatic(field.getModifiers());
            never("5: " + field + " is static, not final", isStatic && !Modifier.isFinal(field.getModifiers()));
            held += isStatic ? 0 : 1;
            boolean isOfFace = Modifier.isPublic(field.getModifiers());
            never("1: " + field, c == TwoSidedTables.class && !Modifier.isPrivate(field.getModifiers()) && !isOfFace);
            never("1: " + field, isOfFace && !Set.of("BAD", "FULL", "NONE", "STATE").contains(field.getName()));
        }
        never("11: fields of " + c, held > 20);
    }

    private static void source(String source) {
        for (int i = 0; i < source.length(); i++) {
            never("3: the sign at " + i, source.charAt(i) > 126);
        }
        String bare = source.replaceAll("(?s)/\\*.*?\\*/", " ").replaceAll("//[^\n]*", " ");
        String[] words = {"throw", "throws", "try", "catch", "synchronized", "assert", "record", "volatile", "native",
            "float", "double", "equals", "hashCode", "toString", "System\\.(?!arraycopy)", "Iterator", "Object",
            "Exception", "Error", "Random", "Thread", "Class", "goto", "package", "\\w+Exact"};
        for (String word : words) {
            never("the word " + word, Pattern.compile("\\b" + word + "(\\b|(?<=\\.))").matcher(bare).find());
        }
        never("2: a lambda or a reference", bare.contains("->") || bare.contains("::"));
        never("6: a text joined by +", Pattern.compile("\"\\s*\\+|\\+\\s*\"").matcher(bare).find());
        Matcher imports = Pattern.compile("import ([^;]+);").matcher(bare);
        while (imports.find()) {
            never("4: import " + imports.group(1), !imports.group(1).equals("java.util.Arrays"));
        }
        never("5: a block of its own", Pattern.compile("\\bstatic\\s*\\{").matcher(bare).find());
    }

    /** Methods of the source begin on a line of four or eight blanks and end with a brace on such a one. */
    private static void methods(String source) {
        String[] lines = source.split("\n");
        int begun = -1;
        String end = "";
        for (int i = 0; i < lines.length; i++) {
            Matcher begins = Pattern.compile("( {4}| {8})[a-zA-Z].*\\) \\{").matcher(lines[i]);
            if (begun < 0 && begins.matches()) {
                begun = i;
                end = begins.group(1) + "}";
            } else if (begun >= 0 && lines[i].equals(end)) {
                never("11: the method at line " + (begun + 1) + " is long", i - begun > 60);
                begun = -1;
            }
        }
    }
}
