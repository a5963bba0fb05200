import java.io.IOException;
import java.lang.management.ManagementFactory;
import java.lang.reflect.Field;
import java.lang.reflect.Member;
import java.lang.reflect.Method;
import java.lang.reflect.Modifier;
import java.nio.file.Files;
import java.nio.file.Path;
import java.util.Arrays;
import java.util.List;
import java.util.Set;
import java.util.TreeSet;
import java.util.regex.Matcher;
import java.util.regex.Pattern;

/** The public face, and those rules of LANGUAGE.md that a look at the class or its text can tell. */
public final class LanguageTest {
    private static final String[] FACE = {
        "boolean law(int,int,int,int)", "int person(int,int,int,int)", "boolean paper(int,int,int)",
        "boolean feast(int)", "int go(int)", "int kin(int,int)", "int against(int,int,int)", "int post(int,int)",
        "boolean withdraw(int)", "int hung(int,int)", "int ripe(int)", "int object(int)",
        "boolean judge(int,boolean)", "int registrar(int)", "int book(int,int,int)", "int order(int)",
        "int wed(int)", "boolean part(int)", "boolean correct(int,int,int)", "int entry(int,int,int)",
        "int name(int,int,int)", "boolean quarrel(int)", "int told(int,int)", "int married(int)", "int count(int)",
    };
    private static final String[] LEFT_OUT = {
        "\\bthrow\\b", "\\bthrows\\b", "\\btry\\b", "\\bcatch\\b", "\\bsynchronized\\b", "\\bassert\\b", "->", "::",
        "Exact\\(", "\\bSystem\\b(?!\\.arraycopy)", "\\bString\\.", "\\bhashCode\\b", "\\btoString\\b", "\\bvar\\b",
        "\\bpackage\\b", "\\bprotected\\b", "\\bstatic \\{", "\\bRandom\\b", "\\bThread\\b",
    };

    public static void main(String[] args) throws IOException {
        face();
        nestedClasses();
        text(Files.readString(Path.of(args.length > 0 ? args[0] : "src/main/java/WeddingRegister.java")));
        room();
        Due.end("LanguageTest");
    }

    private static String signature(Method method) {
        String types = Arrays.toString(method.getParameterTypes()).replace("[", "").replace("]", "").replace(" ", "");
        return method.getReturnType().getName() + " " + method.getName() + "(" + types + ")";
    }

    private static void face() {
        Class<?> office = WeddingRegister.class;
        Due.yes("the class is public and final", Modifier.isPublic(office.getModifiers()) && Modifier.isFinal(office.getModifiers()));
        Set<String> found = new TreeSet<>();
        for (Method method : office.getDeclaredMethods()) {
            Due.yes(method + " is private or public", isPrivateOrPublic(method));
            if (Modifier.isPublic(method.getModifiers())) {
                found.add(signature(method));
                Due.no(method + " is static", Modifier.isStatic(method.getModifiers()));
            }
        }
        Due.yes("the public methods are the document's: " + found, found.equals(new TreeSet<>(List.of(FACE))));
        for (Field field : office.getDeclaredFields()) {
            boolean named = field.getName().equals("NONE") && Modifier.isPublic(field.getModifiers());
            Due.yes(field + " is private, or NONE", named || Modifier.isPrivate(field.getModifiers()));
        }
        Due.is("NONE", -1, WeddingRegister.NONE);
        Due.is("constructors", 1, office.getDeclaredConstructors().length);
        Due.yes("it is public", Modifier.isPublic(office.getDeclaredConstructors()[0].getModifiers()));
    }

    private static boolean isPrivateOrPublic(Member member) {
        return Modifier.isPrivate(member.getModifiers()) || Modifier.isPublic(member.getModifiers());
    }

    private static void nestedClasses() {
        Class<?>[] inside = WeddingRegister.class.getDeclaredClasses();
        Due.yes("at most some twelve classes", inside.length + 1 <= 12);
        Set<String> publicNames = new TreeSet<>();
        for (String signature : FACE) {
            publicNames.add(signature.substring(signature.indexOf(' ') + 1, signature.indexOf('(')));
        }
        namesStandApart(WeddingRegister.class, publicNames);
        for (Class<?> nested : inside) {
            Due.yes(nested + " is static", Modifier.isStatic(nested.getModifiers()));
            Due.no(nested + " is public", Modifier.isPublic(nested.getModifiers()));
            namesStandApart(nested, publicNames);
        }
    }

    private static void namesStandApart(Class<?> type, Set<String> publicNames) {
        int fields = 0;
        for (Method method : type.getDeclaredMethods()) {
            boolean face = Modifier.isPublic(method.getModifiers());
            Due.no(method + " bears a public method's name", !face && publicNames.contains(method.getName()));
            Due.yes(method + " has at most seven parameters", method.getParameterCount() <= 7);
        }
        for (Field field : type.getDeclaredFields()) {
            boolean fixed = Modifier.isStatic(field.getModifiers());
            Due.yes(field + " is no static state", !fixed || Modifier.isFinal(field.getModifiers()));
            fields += fixed ? 0 : 1;
        }
        Due.yes(type + " has at most some twenty fields", fields <= 20);
    }

    private static void text(String source) {
        String code = source.replaceAll("(?s)/\\*.*?\\*/", "").replaceAll("//[^\n]*", "");
        for (String word : LEFT_OUT) {
            Due.no("the text has " + word, Pattern.compile(word).matcher(code).find());
        }
        Matcher imports = Pattern.compile("import ([^;]*);").matcher(code);
        while (imports.find()) {
            String name = imports.group(1);
            Due.yes("import of " + name, List.of("java.util.ArrayList", "java.util.List", "java.util.Arrays").contains(name));
        }
    }

    /** The dearest calls make nothing, and the rest makes a small object each. */
    private static void room() {
        WeddingRegister warm = Office.of(40);
        warm.order(0);
        com.sun.management.ThreadMXBean threads = (com.sun.management.ThreadMXBean) ManagementFactory.getThreadMXBean();
        long before = threads.getCurrentThreadAllocatedBytes();
        WeddingRegister x = Office.of(40);
        x.registrar(1);
        for (int i = 0; i < 20; i++) {
            x.post(i, i + 20);
        }
        // 61 calls and these 450: an object is used for 512 at most.
        for (int i = 0; i < 150; i++) {
            x.order(i % 6);
            x.ripe(i % 20);
            x.hung(i % 20, 20000);
        }
        long used = threads.getCurrentThreadAllocatedBytes() - before;
        Due.yes("a run's room: " + used + " bytes", used < 40000);
    }
}
