import java.lang.reflect.Constructor;
import java.lang.reflect.Field;
import java.lang.reflect.Member;
import java.lang.reflect.Method;
import java.lang.reflect.Modifier;
import java.nio.file.Files;
import java.nio.file.Path;
import java.util.Arrays;
import java.util.TreeSet;
import java.util.regex.Matcher;
import java.util.regex.Pattern;

/** The class has the document's face and no more, and its source keeps clear of what LANGUAGE.md rules out. */
public final class FaceTest {
    private static final String[] FACE = {
        "int file(long)", "int function(int,long)", "boolean change(int,long)", "boolean changeFunction(int,long)",
        "int test(int,int)", "boolean setting(int,long)", "int reads(int,int,int)", "int outcome(int,boolean)",
        "int select(int)", "int at(int)", "int why(int)", "int kept(int,int)", "int share(int)",
        "int together(int,int)", "boolean touched(int)", "int missed(int,int)",
    };
    private static final String RULED_OUT = "\\b(import|package|throw|throws|try|catch|synchronized|assert|protected"
        + "|System\\.(?!arraycopy)\\w+|Object|hashCode|toString|var|\\w+Exact)\\b|->|::|\\benum\\b.*\\{.*\\{";
    private static final int MOST_CLASSES = 12;
    private static final int MOST_FIELDS = 20;
    private static final int MOST_PARAMETERS = 7;
    private static final int MOST_LINES = 60;
    private static int wrong = 0;

    public static void main(String[] args) throws Exception {
        face();
        constant();
        members();
        sizes();
        if (args.length > 0) {
            source(Files.readString(Path.of(args[0])));
        } else {
            say("the path of TouchSelect.java is not told");
        }
        System.out.println(wrong == 0 ? "face and source are as due" : wrong + " faults");
        if (wrong != 0) {
            System.exit(1);
        }
    }

    private static void say(String fault) {
        wrong++;
        System.out.println(fault);
    }

    private static void face() {
        TreeSet<String> got = new TreeSet<>();
        for (Method method : TouchSelect.class.getDeclaredMethods()) {
            if (Modifier.isPublic(method.getModifiers())) {
                got.add(signature(method));
            }
        }
        TreeSet<String> want = new TreeSet<>(Arrays.asList(FACE));
        if (!got.equals(want)) {
            say("the public methods are " + got + ", due are " + want);
        }
        Constructor<?>[] constructors = TouchSelect.class.getDeclaredConstructors();
        if (constructors.length != 1 || constructors[0].getParameterCount() != 0
            || !Modifier.isPublic(constructors[0].getModifiers())) {
            say("the constructor is not as due");
        }
        int modifiers = TouchSelect.class.getModifiers();
        if (!Modifier.isPublic(modifiers) || !Modifier.isFinal(modifiers)) {
            say("the class is not public and final");
        }
    }

    private static void constant() throws Exception {
        Field none = TouchSelect.class.getDeclaredField("NONE");
        int due = Modifier.PUBLIC | Modifier.STATIC | Modifier.FINAL;
        if (none.getModifiers() != due || none.getType() != int.class || none.getInt(null) != -1) {
            say("the constant NONE is not as due: " + none);
        }
    }

    private static String signature(Method method) {
        StringBuilder text = new StringBuilder(method.getReturnType().getName());
        text.append(' ').append(method.getName()).append('(');
        for (int i = 0; i < method.getParameterCount(); i++) {
            text.append(i == 0 ? "" : ",").append(method.getParameterTypes()[i].getName());
        }
        return text.append(')').toString();
    }

    private static void members() {
        TreeSet<String> publicNames = new TreeSet<>();
        for (String line : FACE) {
            publicNames.add(line.substring(line.indexOf(' ') + 1, line.indexOf('(')));
        }
        for (Field field : TouchSelect.class.getDeclaredFields()) {
            if (!isPrivate(field) && !field.getName().equals("NONE")) {
                say("field " + field.getName() + " is not private");
            }
        }
        for (Method method : TouchSelect.class.getDeclaredMethods()) {
            boolean named = publicNames.contains(method.getName());
            if (!method.isSynthetic() && named != Modifier.isPublic(method.getModifiers())) {
                say("method " + method.getName() + " is not as due");
            }
            if (!named && !isPrivate(method)) {
                say("method " + method.getName() + " is not private");
            }
        }
        for (Class<?> inside : TouchSelect.class.getDeclaredClasses()) {
            if (!Modifier.isStatic(inside.getModifiers()) || Modifier.isPublic(inside.getModifiers())) {
                say("class " + inside.getName() + " is not static and hidden");
            }
            for (Method method : inside.getDeclaredMethods()) {
                if (publicNames.contains(method.getName())) {
                    say("class " + inside.getName() + " bears a public name: " + method.getName());
                }
            }
        }
    }

    private static void sizes() {
        Class<?>[] inside = TouchSelect.class.getDeclaredClasses();
        if (inside.length + 1 > MOST_CLASSES) {
            say("too many classes: " + (inside.length + 1));
        }
        sizesOf(TouchSelect.class);
        for (Class<?> one : inside) {
            sizesOf(one);
        }
    }

    private static void sizesOf(Class<?> one) {
        int fields = 0;
        for (Field field : one.getDeclaredFields()) {
            fields += Modifier.isStatic(field.getModifiers()) ? 0 : 1;
        }
        if (fields > MOST_FIELDS) {
            say("class " + one.getName() + " has too many fields: " + fields);
        }
        for (Method method : one.getDeclaredMethods()) {
            if (method.getParameterCount() > MOST_PARAMETERS) {
                say("method " + method.getName() + " takes too much");
            }
        }
    }

    private static boolean isPrivate(Member member) {
        return member.isSynthetic() || Modifier.isPrivate(member.getModifiers());
    }

    private static void source(String text) {
        String code = text.replaceAll("(?s)/\\*.*?\\*/", "").replaceAll("//[^\n]*", "");
        Matcher found = Pattern.compile(RULED_OUT).matcher(code);
        while (found.find()) {
            say("the source has what LANGUAGE.md rules out: " + found.group());
        }
        Matcher fields = Pattern.compile("static (?!final)[^(\n]*[;=]").matcher(code);
        while (fields.find()) {
            say("a static field is not final: " + fields.group());
        }
        methodLengths(code.split("\n"));
    }

    // A method's first line ends with a brace behind its parameters, and its last is a brace as far in as the first.
    private static void methodLengths(String[] lines) {
        Pattern head = Pattern.compile("( +)(?!.*\\b(if|for|while|switch|else)\\b).*\\) \\{");
        for (int i = 0; i < lines.length; i++) {
            Matcher found = head.matcher(lines[i]);
            if (!found.matches()) {
                continue;
            }
            int end = i;
            while (end < lines.length && !lines[end].equals(found.group(1) + "}")) {
                end++;
            }
            if (end - i + 1 > MOST_LINES) {
                say("a method is too long: " + lines[i].trim());
            }
        }
    }
}
