import java.lang.reflect.Constructor;
import java.lang.reflect.Field;
import java.lang.reflect.Method;
import java.lang.reflect.Modifier;
import java.nio.file.Files;
import java.nio.file.Path;
import java.util.ArrayList;
import java.util.HashSet;
import java.util.List;
import java.util.Set;
import java.util.TreeSet;
import java.util.regex.Matcher;
import java.util.regex.Pattern;

/** The face of the class and those rules of LANGUAGE.md that can be seen from outside or in its text. */
public final class LanguageTests {
    private static final String[] FACE = {
        "int feed(int,int,int,int,int)", "int text(int)", "int fault(int)", "int named(int,int)", "int look(int,int)",
        "int note(int,int,int)", "int strike(int)", "boolean known(int)", "int count(int,int)",
        "long likely(int,int,int,int)", "long rate(int,int,int,int)", "int span(int,int,int,int)",
        "long worse(int,int,int,int,int)", "int taken(int)", "long law(int,int)", "int fall(int,int)",
        "int lot(int,int,int)", "int chose(int,int)", "int house(int,int)", "boolean coin(int,int)",
        "int poles(int,int,int)", "int never()", "int draws(int,int,int)", "int number(int)"};
    private static int wrong = 0;

    public static void main(String[] args) throws Exception {
        face();
        nested();
        source(Files.readString(Path.of(args.length > 0 ? args[0] : "src/main/java/WorstPlaces.java")));
        System.out.println(wrong == 0 ? "the rules are kept" : wrong + " rules are broken");
        if (wrong != 0) {
            System.exit(1);
        }
    }

    private static void say(String what) {
        wrong++;
        System.out.println(what);
    }

    private static String shown(Method m) {
        List<String> types = new ArrayList<>();
        for (Class<?> c : m.getParameterTypes()) {
            types.add(c.getName());
        }
        return m.getReturnType().getName() + " " + m.getName() + "(" + String.join(",", types) + ")";
    }

    private static void face() {
        Class<?> c = WorstPlaces.class;
        if (c.getModifiers() != (Modifier.PUBLIC | Modifier.FINAL)) {
            say("rule 1: not public and final alone");
        }
        Set<String> open = new TreeSet<>();
        Set<String> names = new HashSet<>();
        for (Method m : c.getDeclaredMethods()) {
            if (Modifier.isPublic(m.getModifiers())) {
                open.add(shown(m));
                names.add(m.getName());
            } else if (!Modifier.isPrivate(m.getModifiers())) {
                say("rule 1: neither public nor private: " + m);
            }
        }
        if (!open.equals(new TreeSet<>(List.of(FACE)))) {
            say("rule 1: the face is " + open);
        }
        for (Class<?> k : allClasses()) {
            for (Method m : k.getDeclaredMethods()) {
                if (!Modifier.isPublic(m.getModifiers()) && names.contains(m.getName())) {
                    say("rule 1: bears the name of a public one: " + m);
                }
            }
        }
        for (Field f : c.getDeclaredFields()) {
            boolean isNone = f.getName().equals("NONE") && f.getType() == int.class && Modifier.isPublic(f.getModifiers());
            if (!isNone && !Modifier.isPrivate(f.getModifiers())) {
                say("rule 1: a field that is not private: " + f);
            }
        }
        Constructor<?>[] made = c.getDeclaredConstructors();
        if (made.length != 1 || made[0].getParameterCount() != 0 || !Modifier.isPublic(made[0].getModifiers())) {
            say("rule 1: constructors");
        }
    }

    private static List<Class<?>> allClasses() {
        List<Class<?>> all = new ArrayList<>();
        all.add(WorstPlaces.class);
        for (int i = 0; i < all.size(); i++) {
            all.addAll(List.of(all.get(i).getDeclaredClasses()));
        }
        return all;
    }

    private static void nested() {
        List<Class<?>> all = allClasses();
        if (all.size() > 12) {
            say("rule 11: " + all.size() + " classes");
        }
        for (Class<?> c : all) {
            int fields = 0;
            for (Field f : c.getDeclaredFields()) {
                boolean constant = Modifier.isStatic(f.getModifiers());
                fields += constant ? 0 : 1;
                if (constant && !Modifier.isFinal(f.getModifiers())) {
                    say("rule 5: static, not final: " + f);
                }
            }
            if (fields > 20) {
                say("rule 11: " + fields + " fields in " + c);
            }
            for (Method m : c.getDeclaredMethods()) {
                if (m.getParameterCount() > 7) {
                    say("rule 11: parameters of " + m);
                }
            }
            if (c != WorstPlaces.class && !Modifier.isStatic(c.getModifiers())) {
                say("rule 1: not static: " + c);
            }
        }
    }

    private static void source(String text) {
        String code = text.replaceAll("(?s)/\\*.*?\\*/", "").replaceAll("//[^\n]*", "");
        String[] never = {"->", "::", "\\bcatch\\b", "\\btry\\b", "\\bfinally\\b", "\\bsynchronized\\b", "\\bassert\\b",
            "\\bdouble\\b", "\\bfloat\\b", "\\bpackage\\b", "Exact\\b", "\\bwhile \\(true\\)", "for \\(;;\\)",
            "\\bSystem\\.(?!arraycopy)", "\\bRandom\\b", "\\bThread\\b", "\\bprotected\\b", "\\bstatic \\{",
            "\\bhashCode\\b", "\\btoString\\b", "\\bvar\\b", "\\bObject\\b"};
        for (String n : never) {
            Matcher m = Pattern.compile(n).matcher(code);
            if (m.find()) {
                say("not of the language: " + n + " at " + m.start());
            }
        }
        for (String line : code.split("\n")) {
            if (line.startsWith("import ") && !line.equals("import java.util.NoSuchElementException;")) {
                say("rule 4: " + line);
            }
            boolean made = line.matches(".*\\bnew\\b.*") && !line.matches("\\s*(private |final |.*throw ).*");
            if (made) {
                say("rule 12: made in a call: " + line);
            }
            if (line.contains("throw new") && !line.contains("IndexOutOfBoundsException(") && !line.contains("NoSuchElementException(")) {
                say("rule 6: " + line);
            }
        }
        for (char c : text.toCharArray()) {
            if (c > 126) {
                say("rule 4: a sign beyond 126");
                break;
            }
        }
        lengths(text);
    }

    private static void lengths(String text) {
        int begun = -1;
        String[] lines = text.split("\n");
        for (int i = 0; i < lines.length; i++) {
            if (lines[i].matches("(    |        )[a-zA-Z].*\\) (throws .*)?\\{") && !lines[i].contains(" class ")) {
                begun = i;
            }
            if (begun >= 0 && lines[i].matches("(    |        )\\}")) {
                if (i - begun > 60) {
                    say("rule 11: " + (i - begun) + " lines: " + lines[begun]);
                }
                begun = -1;
            }
        }
    }
}
