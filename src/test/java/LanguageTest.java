import java.lang.reflect.Constructor;
import java.lang.reflect.Field;
import java.lang.reflect.Method;
import java.lang.reflect.Modifier;
import java.nio.charset.StandardCharsets;
import java.nio.file.Files;
import java.nio.file.Path;
import java.util.Set;
import java.util.TreeSet;
import java.util.regex.Matcher;
import java.util.regex.Pattern;

/** The public face of the class, and those rules of the language that can be seen from outside. */
public final class LanguageTest {
    private static final String[] FACE = {
        "int batch(int,int)", "int call(int)", "int contract(int,int,int,int)", "int cooker(int,int)",
        "int count(int)", "int fail(int)", "int go(int)", "int ice(int)", "boolean iced(int)",
        "boolean kind(int,int,int)", "int lacks(int)", "int land(int,int,int)", "int lot(int,int)",
        "int of(int,int)", "int pack(int,int,int)", "int plan(int)", "int recall(int)", "int sauce(int,int)",
        "int sell(int,int,int)", "int told(int,int)", "int worth()"};
    private static final String[] FORBIDDEN = {
        "throw", "throws", "try", "catch", "finally", "synchronized", "assert", "import", "package", "protected",
        "volatile", "transient", "native", "Exact", "Thread", "Random", "Object", "->", "::", "equals", "hashCode",
        "toString", "@"};
    private static int wrong = 0;

    public static void main(String[] args) throws Exception {
        face();
        members(FishTins.class, true);
        int classes = 1;
        for (Class<?> inside : FishTins.class.getDeclaredClasses()) {
            classes++;
            check(Modifier.isStatic(inside.getModifiers()), inside + " is static");
            check(!Modifier.isPublic(inside.getModifiers()), inside + " is not public");
            members(inside, false);
        }
        check(classes <= 12, "at most twelve classes");
        source();
        System.out.println(wrong == 0 ? "the face and the language are as due" : wrong + " rules are broken");
        if (wrong != 0) {
            System.exit(1);
        }
    }

    private static void check(boolean holds, String rule) {
        if (!holds) {
            wrong++;
            System.out.println("broken: " + rule);
        }
    }

    private static void face() throws Exception {
        int modifiers = FishTins.class.getModifiers();
        check(Modifier.isPublic(modifiers) && Modifier.isFinal(modifiers), "public and final");
        Constructor<?>[] constructors = FishTins.class.getDeclaredConstructors();
        check(constructors.length == 1 && constructors[0].getParameterCount() == 0, "one constructor");
        check(Modifier.isPublic(constructors[0].getModifiers()), "a public constructor");
        Set<String> due = new TreeSet<>(Set.of(FACE));
        Set<String> got = new TreeSet<>();
        for (Method method : FishTins.class.getDeclaredMethods()) {
            if (!Modifier.isPrivate(method.getModifiers())) {
                check(Modifier.isPublic(method.getModifiers()), method + " is public");
                got.add(signature(method));
            }
        }
        check(got.equals(due), "the face is " + due + " but was " + got);
        check(FishTins.class.getDeclaredField("NONE").getInt(null) == -1, "NONE is -1");
    }

    private static String signature(Method method) {
        StringBuilder text = new StringBuilder(method.getReturnType() + " " + method.getName() + "(");
        for (Class<?> type : method.getParameterTypes()) {
            text.append(text.charAt(text.length() - 1) == '(' ? "" : ",").append(type);
        }
        return text.append(")").toString();
    }

    private static void members(Class<?> owner, boolean isFace) {
        int fields = 0;
        for (Field field : owner.getDeclaredFields()) {
            int modifiers = field.getModifiers();
            if (Modifier.isStatic(modifiers)) {
                check(Modifier.isFinal(modifiers), field + " is final");
            } else {
                fields++;
            }
            if (isFace) {
                check(Modifier.isPrivate(modifiers) || field.getName().equals("NONE"), field + " is private");
            }
        }
        check(fields <= 20, owner + " has at most twenty fields");
        for (Method method : owner.getDeclaredMethods()) {
            check(method.getParameterCount() <= 7, method + " has at most seven parameters");
            if (!isFace || Modifier.isPrivate(method.getModifiers())) {
                for (String shown : FACE) {
                    check(!shown.contains(" " + method.getName() + "("), method + " has no name of the face");
                }
            }
        }
    }

    private static void source() throws Exception {
        String text = Files.readString(Path.of("src/main/java/FishTins.java"), StandardCharsets.UTF_8);
        for (int i = 0; i < text.length(); i++) {
            check(text.charAt(i) < 128, "plain signs alone");
        }
        String code = text.replaceAll("(?s)/\\*.*?\\*/", "").replaceAll("//[^\n]*", "");
        for (String word : FORBIDDEN) {
            boolean isName = Character.isLetter(word.charAt(0));
            String pattern = isName && !word.equals("Exact") ? "\\b" + word + "\\b" : Pattern.quote(word);
            check(!Pattern.compile(pattern).matcher(code).find(), "no " + word);
        }
        Matcher calls = Pattern.compile("\\b([A-Z][A-Za-z]*)\\.([a-z][A-Za-z]*)\\(").matcher(code);
        Set<String> library = Set.of("Math.min", "Math.max", "System.arraycopy", "Kinds.canBe");
        while (calls.find()) {
            String name = calls.group(1) + "." + calls.group(2);
            check(library.contains(name), name + " is of the library that is allowed");
        }
        methodsAreShort(code);
    }

    private static void methodsAreShort(String code) {
        String[] lines = code.split("\n");
        int begin = -1;
        String end = "";
        for (int i = 0; i < lines.length; i++) {
            String line = lines[i];
            if (begin < 0 && line.matches(" {4,8}\\S.*\\) \\{") && !line.contains(" class ")) {
                begin = i;
                end = line.replaceAll("\\S.*", "") + "}";
            } else if (begin >= 0 && line.equals(end)) {
                check(i - begin < 60, "the method of line " + begin + " is short");
                begin = -1;
            }
        }
    }
}
