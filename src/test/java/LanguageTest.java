import java.io.IOException;
import java.lang.reflect.Member;
import java.lang.reflect.Modifier;
import java.nio.file.Files;
import java.nio.file.Path;
import java.util.Arrays;
import java.util.HashSet;
import java.util.List;
import java.util.Set;
import java.util.regex.Matcher;
import java.util.regex.Pattern;

/** Some rules of LANGUAGE.md that can be seen in the source and in the compiled class. */
public final class LanguageTest {
    private static final Due DUE = new Due("LanguageTest");
    private static final int LONGEST_METHOD = 60;
    private static final int MOST_CLASSES = 12;
    private static final int MOST_FIELDS = 20;
    private static final int MOST_PARAMETERS = 7;

    public static void main(String[] args) throws IOException {
        String source = Files.readString(Path.of("src/main/java/OneSided.java"));
        words(source.replaceAll("(?s)/\\*.*?\\*/|//[^\n]*|\"[^\"\n]*\"", " "));
        lengths(source.split("\n"));
        faces();
        DUE.end();
    }

    private static void words(String code) {
        String[] forbidden = {
            "\\bthrow\\b", "\\bthrows\\b", "\\btry\\b", "\\bcatch\\b", "\\bsynchronized\\b", "\\bassert\\b",
            "\\bpackage\\b", "->", "::", "\\bprotected\\b", "Exact\\b", "\\bSystem\\.(?!arraycopy)", "\\bRandom\\b",
            "\\bObject\\b", "\\bString\\.", "\\bdouble\\b", "\\bfloat\\b", "\\bstatic \\{"
        };
        for (String word : forbidden) {
            DUE.same("no " + word, Pattern.compile(word).matcher(code).find(), false);
        }
        Matcher imports = Pattern.compile("import ([\\w.]+);").matcher(code);
        while (imports.find()) {
            DUE.same("import " + imports.group(1), imports.group(1).equals("java.util.Arrays"), true);
        }
    }

    private static void lengths(String[] lines) {
        Pattern head = Pattern.compile("^( {4}| {8})[\\w<].*\\) \\{$");
        for (int i = 0; i < lines.length; i++) {
            if (head.matcher(lines[i]).matches()) {
                String end = lines[i].replaceAll("\\S.*", "") + "}";
                int last = i;
                while (last < lines.length && !lines[last].equals(end)) {
                    last++;
                }
                DUE.same("length of " + lines[i].trim(), last - i + 1 <= LONGEST_METHOD, true);
            }
        }
    }

    private static void faces() {
        Class<?> face = OneSided.class;
        Set<String> open = new HashSet<>();
        List<Member> members = new java.util.ArrayList<>(Arrays.asList(face.getDeclaredMethods()));
        members.addAll(Arrays.asList(face.getDeclaredFields()));
        for (Member member : members) {
            boolean hidden = Modifier.isPrivate(member.getModifiers());
            boolean isPublic = Modifier.isPublic(member.getModifiers());
            DUE.same("member " + member.getName(), hidden || isPublic, true);
            if (isPublic) {
                DUE.same("told once: " + member.getName(), open.add(member.getName()), true);
            }
        }
        DUE.same("29 methods and a constant", open.size(), 30);
        DUE.same("classes", face.getDeclaredClasses().length + 1 <= MOST_CLASSES, true);
        insides(face, open);
        for (Class<?> inside : face.getDeclaredClasses()) {
            DUE.same("static: " + inside, Modifier.isStatic(inside.getModifiers()), true);
            insides(inside, open);
        }
    }

    private static void insides(Class<?> one, Set<String> open) {
        int fields = 0;
        for (var field : one.getDeclaredFields()) {
            boolean isStatic = Modifier.isStatic(field.getModifiers());
            fields += isStatic ? 0 : 1;
            DUE.same("final: " + field, !isStatic || Modifier.isFinal(field.getModifiers()), true);
        }
        DUE.same("fields of " + one, fields <= MOST_FIELDS, true);
        for (var method : one.getDeclaredMethods()) {
            DUE.same("parameters of " + method, method.getParameterCount() <= MOST_PARAMETERS, true);
            boolean twice = one != OneSided.class && open.contains(method.getName());
            DUE.same("a name of the face: " + method, twice, false);
        }
    }
}
