import java.lang.reflect.Constructor;
import java.lang.reflect.Field;
import java.lang.reflect.Method;
import java.lang.reflect.Modifier;
import java.nio.charset.StandardCharsets;
import java.nio.file.Files;
import java.nio.file.Paths;
import java.util.Arrays;
import java.util.Set;
import java.util.TreeSet;
import java.util.regex.Matcher;
import java.util.regex.Pattern;

/** The face of the class by the document, and what of LANGUAGE.md can be seen from outside. */
public final class LanguageTest {
    private static final String[] FACE = {
        "int feed(int,int,int,int,int)", "int quarter(int)", "int walk(int,int)", "int law(int)",
        "boolean stranger(int,int,int,int)", "boolean dog(int,boolean)", "boolean tells(int)",
        "int haunts(int)", "int tried(int,int)", "int strangerIs(int,int)", "int houseIs(int,int)",
        "int meet(int,int,int)", "int dread(int,int,int)", "int unseen(int,int,int)", "int watch(int)",
        "int feared(int,int)", "int sightings(int,int)", "int rotas(int,int,int,int)",
        "int goes(int,int)", "long odds(int,int,int)", "int watered(int)", "int tax(int)",
        "boolean hand(int,int)", "int ledger(int,int,int,int)", "boolean seed(int)", "int keep()",
        "boolean undo()", "int check(int)", "int count(int)"
    };
    private static final String[] RULED_OUT = {
        "throw", "throws", "try", "catch", "synchronized", "assert", "package", "volatile", "native",
        "->", "::", "\\w+Exact\\s*\\(", "static\\s*\\{", "System", "Random", "Thread", "Object",
        "toString", "hashCode", "equals", "protected", "extends", "float", "double", "default\\s*->"
    };
    private static int wrong = 0;

    public static void main(String[] args) throws Exception {
        face();
        nested(GhostQuarter.class);
        if (args.length > 0) {
            source(new String(Files.readAllBytes(Paths.get(args[0])), StandardCharsets.ISO_8859_1));
        } else {
            say("no source is told");
        }
        System.out.println(wrong == 0 ? "the language is kept" : wrong + " rules are not kept");
        if (wrong != 0) {
            System.exit(1);
        }
    }

    private static void say(String what) {
        wrong++;
        System.out.println(what);
    }

    private static void must(boolean holds, String what) {
        if (!holds) {
            say(what);
        }
    }

    private static String told(Method m) {
        StringBuilder b = new StringBuilder(m.getReturnType() + " " + m.getName() + "(");
        Class<?>[] types = m.getParameterTypes();
        for (int i = 0; i < types.length; i++) {
            b.append(i == 0 ? "" : ",").append(types[i]);
        }
        return b.append(")").toString();
    }

    private static void face() throws Exception {
        Class<?> c = GhostQuarter.class;
        must(Modifier.isPublic(c.getModifiers()) && Modifier.isFinal(c.getModifiers()), "not public and final");
        Set<String> face = new TreeSet<>();
        Set<String> hidden = new TreeSet<>();
        for (Method m : c.getDeclaredMethods()) {
            if (Modifier.isPublic(m.getModifiers())) {
                face.add(told(m));
                must(!Modifier.isStatic(m.getModifiers()), "static: " + told(m));
            } else {
                must(Modifier.isPrivate(m.getModifiers()), "neither public nor private: " + told(m));
                hidden.add(m.getName());
            }
        }
        must(face.equals(new TreeSet<>(Arrays.asList(FACE))), "another face: " + face);
        Set<String> names = new TreeSet<>();
        for (Method m : c.getMethods()) {
            names.add(m.getName());
        }
        hidden.retainAll(names);
        must(hidden.isEmpty(), "private ones with a public name: " + hidden);
        for (Field f : c.getDeclaredFields()) {
            boolean isNone = f.getName().equals("NONE");
            must(isNone ? Modifier.isPublic(f.getModifiers()) : Modifier.isPrivate(f.getModifiers()),
                "the field " + f.getName());
        }
        Field none = c.getField("NONE");
        must(Modifier.isStatic(none.getModifiers()) && Modifier.isFinal(none.getModifiers())
            && none.getType() == int.class && none.getInt(null) == -1, "NONE");
        Constructor<?>[] made = c.getDeclaredConstructors();
        must(made.length == 1 && made[0].getParameterCount() == 0 && Modifier.isPublic(made[0].getModifiers()),
            "the constructors");
    }

    private static void nested(Class<?> c) {
        int fields = 0;
        for (Field f : c.getDeclaredFields()) {
            boolean isStatic = Modifier.isStatic(f.getModifiers());
            fields += isStatic ? 0 : 1;
            must(!isStatic || Modifier.isFinal(f.getModifiers()), "static, not final: " + f);
        }
        must(fields <= 20, fields + " fields in " + c);
        for (Method m : c.getDeclaredMethods()) {
            must(m.getParameterCount() <= 7, "too many parameters: " + m);
            for (String open : FACE) {
                boolean like = open.contains(" " + m.getName() + "(");
                must(!like || c == GhostQuarter.class, "a public name: " + m);
            }
        }
        for (Class<?> inner : c.getDeclaredClasses()) {
            must(Modifier.isStatic(inner.getModifiers()) && !Modifier.isPublic(inner.getModifiers())
                && !Modifier.isProtected(inner.getModifiers()), "not static and hidden: " + inner);
            nested(inner);
        }
        if (c == GhostQuarter.class) {
            must(c.getDeclaredClasses().length <= 12, "too many classes");
        }
    }

    private static void source(String text) {
        for (int i = 0; i < text.length(); i++) {
            must(text.charAt(i) < 127, "a sign above 126 at " + i);
        }
        String code = text.replaceAll("(?s)/\\*.*?\\*/", "").replaceAll("//[^\n]*", "");
        code = code.replaceAll("'(\\\\.|[^'\\\\])'", "' '").replaceAll("\"(\\\\.|[^\"\\\\])*\"", "\"\"");
        for (String word : RULED_OUT) {
            boolean isWord = Character.isLetter(word.charAt(0));
            Matcher m = Pattern.compile(isWord ? "\\b" + word : word).matcher(code);
            while (m.find()) {
                boolean longer = isWord && m.end() < code.length() && Character.isJavaIdentifierPart(code.charAt(m.end()))
                    && Character.isLetter(word.charAt(word.length() - 1));
                must(longer, "ruled out: " + word);
            }
        }
        for (String line : code.split("\n")) {
            must(!line.startsWith("import ") || line.matches("import java\\.util\\.(Arrays|List|ArrayList);"), line);
        }
        shortMethods(code);
    }

    private static void shortMethods(String code) {
        String[] lines = code.split("\n");
        for (int i = 0; i < lines.length; i++) {
            Matcher head = Pattern.compile("^( +)[^=;]*\\)\\s*\\{$").matcher(lines[i]);
            if (head.find() && !lines[i].trim().matches("(if|for|while|switch|\\}).*")) {
                int end = i;
                while (end < lines.length && !lines[end].equals(head.group(1) + "}")) {
                    end++;
                }
                must(end - i <= 60, "a long method: " + lines[i].trim());
            }
        }
    }
}
