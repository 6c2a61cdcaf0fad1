import java.io.IOException;
import java.lang.reflect.Constructor;
import java.lang.reflect.Field;
import java.lang.reflect.Method;
import java.lang.reflect.Modifier;
import java.nio.file.Files;
import java.nio.file.Path;
import java.util.Set;
import java.util.TreeSet;
import java.util.regex.Matcher;
import java.util.regex.Pattern;

/** The face of the class, and those rules of LANGUAGE.md that can be seen from outside. Its argument is the source. */
public final class FaceTest {
    private static final String FACE = "write(int) wipe() fault(int) load() define(int) undefine(int) restart() listing(int)"
            + " may(int,int,int) run(int) answer(int) drop(int) told(int) value() focus() trace(int) performed(int)"
            + " frame(int,int) handler(int) keep(int) back(int)";

    private static void due(String what, boolean holds) {
        Due.due(what, holds ? 1 : 0, 1);
    }

    private static void members() {
        due("public and final", EffectMachine.class.getModifiers() == (Modifier.PUBLIC | Modifier.FINAL));
        Set<String> want = new TreeSet<>(Set.of(FACE.split(" ")));
        Set<String> got = new TreeSet<>();
        Set<String> names = new TreeSet<>();
        for (Method each : EffectMachine.class.getDeclaredMethods()) {
            if (!Modifier.isPrivate(each.getModifiers())) {
                StringBuilder s = new StringBuilder(each.getName()).append('(');
                for (Class<?> type : each.getParameterTypes()) {
                    s.append(s.charAt(s.length() - 1) == '(' ? "" : ",").append(type.getName());
                }
                got.add(s.append(')').toString());
                names.add(each.getName());
                due(each + " is of the face", each.getModifiers() == Modifier.PUBLIC && each.getReturnType() == int.class);
            }
        }
        due("methods " + got, got.equals(want));
        for (Class<?> inner : EffectMachine.class.getDeclaredClasses()) {
            due(inner + " is static", Modifier.isStatic(inner.getModifiers()) && !Modifier.isPublic(inner.getModifiers()));
            for (Method each : inner.getDeclaredMethods()) {
                due(each + " has a name of its own", !names.contains(each.getName()));
            }
            fields(inner, true);
        }
        for (Method each : EffectMachine.class.getDeclaredMethods()) {
            due(each + " has a name of its own", !Modifier.isPrivate(each.getModifiers()) || !names.contains(each.getName()));
        }
        fields(EffectMachine.class, false);
        Constructor<?>[] made = EffectMachine.class.getDeclaredConstructors();
        due("one constructor", made.length == 1 && made[0].getModifiers() == Modifier.PUBLIC && made[0].getParameterCount() == 0);
        due("number of classes", EffectMachine.class.getDeclaredClasses().length <= 12);
    }

    private static void fields(Class<?> of, boolean isInside) {
        int own = 0;
        for (Field each : of.getDeclaredFields()) {
            int is = each.getModifiers();
            due(each + " is final, if static", !Modifier.isStatic(is) || Modifier.isFinal(is));
            boolean isOfTheFace = Set.of("BAD", "STATE", "FULL", "NONE").contains(each.getName());
            due(each + " is hidden", isInside || Modifier.isPrivate(is) != isOfTheFace);
            own += Modifier.isStatic(is) ? 0 : 1;
        }
        due(of + " has few fields", own <= 20);
    }

    private static void source(String file) throws IOException {
        String code = Files.readString(Path.of(file)).replaceAll("(?s)/\\*.*?\\*/", "").replaceAll("//[^\n]*", "");
        Matcher bad = Pattern.compile("\\b(throw|throws|try|catch|synchronized|assert|System\\.(?!arraycopy)|Thread|Random|yield"
                + "|package|protected|record|native|volatile)\\b|->|::|@[A-Z]").matcher(code);
        while (bad.find()) {
            due("'" + bad.group() + "' is not in the source", false);
        }
        Matcher imports = Pattern.compile("import ([^;]*);").matcher(code);
        while (imports.find()) {
            due("import of " + imports.group(1), imports.group(1).equals("java.util.Arrays"));
        }
        Matcher handed = Pattern.compile("(?m)^ {4,8}(private |final )+\\w+ \\w+ = new \\w+\\(.*\\b[a-z]\\w*\\b.*\\);").matcher(code);
        while (handed.find()) {
            due("'" + handed.group().trim() + "' hands out nothing of the object", false);
        }
        int begun = 0;
        int line = 0;
        for (String each : Files.readAllLines(Path.of(file))) {
            line++;
            if (each.matches(" {4,8}[a-zA-Z].*\\) \\{")) {
                begun = line;
            }
            if (each.matches(" {4,8}\\}")) {
                due("method that ends in line " + line + " is short", begun == 0 || line - begun <= 60);
                begun = 0;
            }
        }
    }

    public static void main(String[] args) throws IOException {
        members();
        source(args.length > 0 ? args[0] : "src/main/java/EffectMachine.java");
        Due.finish("FaceTest");
    }
}
