import java.io.IOException;
import java.lang.reflect.Constructor;
import java.lang.reflect.Field;
import java.lang.reflect.Method;
import java.lang.reflect.Modifier;
import java.nio.charset.StandardCharsets;
import java.nio.file.Files;
import java.nio.file.Path;
import java.util.Arrays;
import java.util.TreeSet;
import java.util.regex.Matcher;
import java.util.regex.Pattern;

/** The public face of the document, and those rules of LANGUAGE.md that can be read off the class and its file. */
public final class FaceTest {
    private static final String[] METHODS = {
        "int write(int)", "int wipe()", "int fault()", "int tree()", "int about(int)", "int paper(int,int)",
        "int grant(int,int)", "int route(int,int)", "int announce(int,int,int)", "int withdraw(int)",
        "int allow(int,int,int,int,int)", "int tear(int)", "int revoke(int)", "int night()", "int setAside(int)",
        "int undo()", "int state(int,int,int)", "int goes(int,int)", "int theft(int,int,int)", "int lost(int)",
        "int judge(int,long)", "int see(int,int,int,int)", "int unsee()", "int which(int)",
        "int share(int,boolean)", "int chance(int,int,boolean)", "long seed(long)", "int drawn(int)",
        "int keep(int)", "int again(int)"};
    private static final String[] CONSTANTS = {"UNKNOWN", "BAD", "LATE", "FULL", "NONE"};
    private static final int[] VALUES = {-1, -2, -3, -4, -9};
    private static final String FORBIDDEN = "\\b(throw|throws|try|catch|synchronized|assert|import|package|protected"
            + "|native|volatile|transient|strictfp|float|double|hashCode|toString|\\w+Exact)\\b|->|::|@|\"";

    private static int wrong;

    public static void main(String[] args) throws IOException, IllegalAccessException {
        face();
        constants();
        inside(RangePapers.class);
        String code = code();
        words(code);
        methodSizes(code);
        room(code);
        System.out.println(wrong == 0 ? "the face is as due" : wrong + " things are not as due");
        if (wrong != 0) {
            System.exit(1);
        }
    }

    private static void check(boolean holds, String what) {
        if (!holds) {
            wrong++;
            System.out.println("not so: " + what);
        }
    }

    private static void face() {
        int modifiers = RangePapers.class.getModifiers();
        check(Modifier.isPublic(modifiers) && Modifier.isFinal(modifiers), "the class is public and final");
        TreeSet<String> found = new TreeSet<>();
        for (Method method : RangePapers.class.getDeclaredMethods()) {
            if (!Modifier.isPrivate(method.getModifiers())) {
                check(Modifier.isPublic(method.getModifiers()), method + " is public");
                check(!Modifier.isStatic(method.getModifiers()), method + " is not static");
                String types = Arrays.toString(method.getParameterTypes()).replaceAll("[\\[\\] ]", "");
                found.add(method.getReturnType() + " " + method.getName() + "(" + types + ")");
            }
        }
        check(found.equals(new TreeSet<>(Arrays.asList(METHODS))), "the methods are the document's: " + found);
        Constructor<?>[] constructors = RangePapers.class.getDeclaredConstructors();
        check(constructors.length == 1 && Modifier.isPublic(constructors[0].getModifiers())
                && constructors[0].getParameterCount() == 0, "there is one public constructor");
    }

    private static void constants() throws IllegalAccessException {
        int seen = 0;
        for (Field field : RangePapers.class.getDeclaredFields()) {
            if (Modifier.isPrivate(field.getModifiers())) {
                continue;
            }
            int i = Arrays.asList(CONSTANTS).indexOf(field.getName());
            check(i >= 0, field + " is the document's");
            check(Modifier.toString(field.getModifiers()).equals("public static final"), field + " is a constant");
            check(i >= 0 && field.getInt(null) == VALUES[i], field + " has its value");
            seen++;
        }
        check(seen == CONSTANTS.length, "all constants are there");
    }

    private static void inside(Class<?> outer) {
        TreeSet<String> names = new TreeSet<>();
        for (String method : METHODS) {
            names.add(method.replaceAll(".* (\\w+)\\(.*", "$1"));
        }
        for (Method method : outer.getDeclaredMethods()) {
            boolean isFace = outer == RangePapers.class && Modifier.isPublic(method.getModifiers());
            check(isFace || !names.contains(method.getName()), method + " bears no name of the face");
            check(method.getParameterCount() <= 7, method + " takes at most seven parameters");
        }
        int fields = 0;
        for (Field field : outer.getDeclaredFields()) {
            boolean isStatic = Modifier.isStatic(field.getModifiers());
            check(!isStatic || Modifier.isFinal(field.getModifiers()), field + " is final if it is static");
            fields += isStatic ? 0 : 1;
        }
        check(fields <= 20, outer + " has some twenty fields at most");
        Class<?>[] classes = outer.getDeclaredClasses();
        check(classes.length <= 11, "some twelve classes at most");
        for (Class<?> inner : classes) {
            check(Modifier.isStatic(inner.getModifiers()) && !Modifier.isPublic(inner.getModifiers()),
                    inner + " is static and not public");
            inside(inner);
        }
    }

    /** The program without its comments and signs. */
    private static String code() throws IOException {
        Path path = Path.of("src/main/java/RangePapers.java");
        String all = new String(Files.readAllBytes(path), StandardCharsets.ISO_8859_1);
        for (int i = 0; i < all.length(); i++) {
            check(all.charAt(i) > 0 && all.charAt(i) < 128, "sign " + i + " is one of 1 to 127");
        }
        return all.replaceAll("(?s)/\\*.*?\\*/", "").replaceAll("//[^\n]*", "").replaceAll("'[^']'", "0");
    }

    private static void words(String code) {
        Matcher matcher = Pattern.compile(FORBIDDEN).matcher(code);
        while (matcher.find()) {
            check(false, "the program has no " + matcher.group());
        }
        Matcher library = Pattern.compile("\\b(Math|Integer|System|Long|Arrays)\\.\\w+").matcher(code);
        while (library.find()) {
            check(library.group().matches("Math\\.(max|min)|Integer\\.bitCount|System\\.arraycopy"),
                    library.group() + " is one of those that were looked up");
        }
    }

    private static void methodSizes(String code) {
        Matcher matcher = Pattern.compile("(?m)^( +)(?=\\w)([\\w\\[\\]]+ )*\\w+\\([^)\n]*\\) \\{\n(.*\n)*?\\1\\}\n").matcher(code);
        int methods = 0;
        while (matcher.find()) {
            methods++;
            int lines = matcher.group().split("\n").length;
            check(lines <= 60, "a method has sixty lines at most: " + matcher.group().split("\n")[0]);
        }
        check(methods > METHODS.length, "the methods are found");
    }

    /** No call makes an object: all are made with the fields of the class and of those inside it. */
    private static void room(String code) {
        for (String line : code.split("\n")) {
            boolean makes = Pattern.compile("\\bnew\\b").matcher(line).find();
            check(!makes || line.matches(" +(private )?final .* = new .*|.* this\\.cells = new .*"),
                    "made with the object: " + line.trim());
        }
    }
}
