import java.lang.reflect.Constructor;
import java.lang.reflect.Field;
import java.lang.reflect.Method;
import java.lang.reflect.Modifier;
import java.nio.file.Files;
import java.nio.file.Path;
import java.util.ArrayList;
import java.util.Collections;
import java.util.List;
import java.util.Set;
import java.util.TreeSet;
import java.util.regex.Matcher;
import java.util.regex.Pattern;

/** The public face, and those rules of LANGUAGE.md that can be seen without reading. */
public final class LanguageTest {
    private static final Due due = new Due();
    private static final String[] METHODS = {
        "int letter(int)", "int blank()", "int fault()", "int dome()", "int place(int,int)", "int cloth(int,boolean)",
        "int person(int,int)", "int about(int,int)", "int as(int,int)", "int move(int,int)", "int say(int,int)",
        "int hears(int,int)", "int screens(int,int,int)", "int stand(int,int)", "int trial(int,boolean)",
        "int forget()", "int who()", "int ask()", "int days(int,int,int)", "int image()", "int restore()",
        "int count(int)", "long digest()"};
    private static final String[] BANNED = {
        "throw", "throws", "try", "catch", "finally", "synchronized", "assert", "package", "->", "::", "System\\.(?!arraycopy)",
        "Exact", "volatile", "transient", "native", "protected", "Thread", "Random", "Object", "equals", "hashCode", "toString"};

    public static void main(String[] args) throws Exception {
        face();
        members();
        source(Files.readString(Path.of(args.length > 0 ? args[0] : "src/main/java/WhisperDome.java")));
        due.end("LanguageTest");
    }

    private static String shown(Method method) {
        List<String> parts = new ArrayList<>();
        for (Class<?> type : method.getParameterTypes()) {
            parts.add(type.getSimpleName());
        }
        return method.getReturnType().getSimpleName() + " " + method.getName() + "(" + String.join(",", parts) + ")";
    }

    private static void face() throws Exception {
        Class<?> face = WhisperDome.class;
        due.holds("public and final", Modifier.isPublic(face.getModifiers()) && Modifier.isFinal(face.getModifiers()));
        Set<String> open = new TreeSet<>();
        Set<String> names = new TreeSet<>();
        for (Method method : face.getDeclaredMethods()) {
            if (Modifier.isPrivate(method.getModifiers())) {
                continue;
            }
            open.add(shown(method));
            names.add(method.getName());
            due.holds(shown(method) + " is public", Modifier.isPublic(method.getModifiers()) && !Modifier.isStatic(method.getModifiers()));
        }
        Set<String> wanted = new TreeSet<>();
        Collections.addAll(wanted, METHODS);
        due.holds("the methods of the face, and are " + open, open.equals(wanted));
        for (Method method : face.getDeclaredMethods()) {
            boolean hidden = Modifier.isPrivate(method.getModifiers());
            due.holds("no private " + method.getName(), !hidden || !names.contains(method.getName()));
        }
        Constructor<?>[] made = face.getDeclaredConstructors();
        due.holds("one public constructor", made.length == 1 && made[0].getParameterCount() == 0 && Modifier.isPublic(made[0].getModifiers()));
        int[] values = {-1, -101, -102, -103, -104};
        String[] constants = {"NONE", "UNKNOWN", "OUTSIDE", "STATE", "FULL"};
        for (int i = 0; i < values.length; i++) {
            due.is(constants[i], face.getField(constants[i]).getInt(null), values[i]);
        }
        due.is("public constants", face.getFields().length, values.length);
    }

    private static void members() {
        List<Class<?>> all = new ArrayList<>(List.of(WhisperDome.class.getDeclaredClasses()));
        due.holds("at most twelve classes", all.size() + 1 <= 12);
        for (Class<?> inside : all) {
            due.holds(inside.getName() + " is static", Modifier.isStatic(inside.getModifiers()));
        }
        all.add(WhisperDome.class);
        for (Class<?> each : all) {
            int fields = 0;
            for (Field field : each.getDeclaredFields()) {
                boolean fixed = Modifier.isStatic(field.getModifiers());
                due.holds(field + " is final, if static", !fixed || Modifier.isFinal(field.getModifiers()));
                boolean hidden = Modifier.isPrivate(field.getModifiers()) || Modifier.isPublic(field.getModifiers()) && fixed;
                due.holds(field + " is hidden", each != WhisperDome.class || hidden);
                fields += fixed ? 0 : 1;
            }
            due.holds(each.getName() + " has at most twenty fields", fields <= 20);
            for (Method method : each.getDeclaredMethods()) {
                due.holds(method + " takes at most seven", method.getParameterCount() <= 7);
            }
        }
    }

    private static void source(String text) {
        String code = text.replaceAll("(?s)/\\*.*?\\*/", " ").replaceAll("//[^\\n]*", " ");
        for (String word : BANNED) {
            String pattern = Character.isLetter(word.charAt(0)) && word.matches("\\w+") ? "\\b" + word + "\\b" : word;
            if (word.equals("Exact")) {
                pattern = "\\w+Exact\\b";
            }
            due.holds("no '" + word + "' in the source", !Pattern.compile(pattern).matcher(code).find());
        }
        Matcher imports = Pattern.compile("import\\s+([\\w.*]+)").matcher(code);
        while (imports.find()) {
            due.holds("import " + imports.group(1), imports.group(1).equals("java.util.Arrays"));
        }
        for (char sign : text.toCharArray()) {
            if (sign > 127) {
                due.holds("sign " + (int) sign, false);
            }
        }
        longest(code);
    }

    /** A method begins with a line that opens a brace at its class's depth, and ends when that closes. */
    private static void longest(String code) {
        int since = 0;
        for (String line : code.split("\n")) {
            since = line.matches("( {4}| {8})\\}") ? 0 : since + 1;
            boolean opens = line.matches("( {4}| {8})(public|private|static|int|long|boolean|void).*\\{");
            since = opens ? 1 : since;
            due.holds("a method over sixty lines at: " + line, since <= 60);
        }
    }
}
