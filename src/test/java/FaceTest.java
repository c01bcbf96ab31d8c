import java.lang.reflect.Constructor;
import java.lang.reflect.Field;
import java.lang.reflect.Method;
import java.lang.reflect.Modifier;
import java.nio.charset.StandardCharsets;
import java.nio.file.Files;
import java.nio.file.Path;
import java.util.ArrayList;
import java.util.HashSet;
import java.util.List;
import java.util.Set;
import java.util.TreeSet;

/** The face is that of the document and nothing else; the file keeps to the rules that can be seen by their words. */
public final class FaceTest {
    private static final String IOB = "IndexOutOfBoundsException";
    private static final String IAE = "IllegalArgumentException";
    private static final String ISE = "IllegalStateException";
    private static final String NSE = "NoSuchElementException";
    private static final String UOE = "UnsupportedOperationException";
    private static final String AE = "ArithmeticException";

    private static final String[] FACE = {
        "int lesson() " + IAE + " " + UOE,
        "int drop(int) " + UOE,
        "int keep(int int) " + UOE,
        "int unkeep(int) " + UOE,
        "int nodes(int) " + IOB,
        "int nodeOf(int int int) " + IOB + " " + IAE,
        "char signOf(int int) " + IOB + " " + NSE,
        "int binder(int int) " + IOB + " " + NSE,
        "int uses(int int) " + IOB + " " + IAE,
        "int unbound(int) " + IOB,
        "boolean isTyped(int) " + IOB,
        "int failure(int int) " + IOB + " " + IAE + " " + NSE,
        "int typeOf(int int) " + IOB + " " + IAE + " " + ISE,
        "int typeAgain(int int) " + IOB + " " + IAE + " " + ISE,
        "int nodeType(int int int) " + IOB + " " + IAE + " " + ISE,
        "boolean isAlike(int int) " + IOB + " " + ISE,
        "boolean isAsGeneral(int int) " + IOB + " " + ISE,
        "int fit(int int) " + IOB + " " + ISE + " " + NSE,
        "int fitting(int) " + IOB + " " + ISE,
        "boolean isKept(int) " + IOB,
        "int largest() " + NSE,
        "int ranked(int) " + NSE,
        "boolean isTold()",
        "int append(char) " + IAE + " " + ISE,
        "int run() " + IAE + " " + UOE,
        "int faultPosition()",
        "int reason(int boolean) " + IAE + " " + NSE,
        "int tell(int) " + IOB + " " + ISE,
        "int tellNode(int int) " + IOB + " " + ISE,
        "int tellKept(int) " + IOB + " " + NSE,
        "int tellTerm(int) " + IOB,
        "char character(int) " + IOB,
        "int account(int) " + IAE,
        "double meanSize() " + AE,
        "float typedShare() " + AE,
        "int undo() " + ISE,
        "int save()",
        "int restore() " + ISE,
    };

    private static final String[] FORBIDDEN = {
        "->", "::", "synchronized", "assert ", "finally", "catch", "try {", "try(", "static {", "String.format",
        "System.", "Thread", "Random", "hashCode", "equals(", "toString", "getMessage", "instanceof", "Exact(",
        "protected", "package ", "interface ", "Object", "var ", "yield", "import java.util.*", "new StringBuilder(M",
    };

    private static int wrong;

    private static void check(boolean isRight, String what) {
        if (!isRight) {
            wrong++;
            System.out.println("FaceTest: " + what);
        }
    }

    private static String spelled(Method method) {
        List<String> parameters = new ArrayList<>();
        for (Class<?> type : method.getParameterTypes()) {
            parameters.add(type.getSimpleName());
        }
        StringBuilder text = new StringBuilder(method.getReturnType().getSimpleName());
        text.append(' ').append(method.getName()).append('(').append(String.join(" ", parameters)).append(')');
        for (Class<?> type : method.getExceptionTypes()) {
            text.append(' ').append(type.getSimpleName());
        }
        return text.toString();
    }

    private static void checkMembers() {
        Set<String> due = new TreeSet<>(List.of(FACE));
        Set<String> got = new TreeSet<>();
        Set<String> names = new HashSet<>();
        for (Method method : TypeTutor.class.getDeclaredMethods()) {
            if (!Modifier.isPrivate(method.getModifiers())) {
                got.add(spelled(method));
                names.add(method.getName());
                check(Modifier.isPublic(method.getModifiers()), method + " is not public");
                check(!Modifier.isStatic(method.getModifiers()), method + " is static");
            }
        }
        check(got.equals(due), "the face is " + got);
        check(Modifier.isFinal(TypeTutor.class.getModifiers()), "the class is not final");
        for (Constructor<?> constructor : TypeTutor.class.getDeclaredConstructors()) {
            check(Modifier.isPublic(constructor.getModifiers()) && constructor.getParameterCount() == 0, constructor + " is seen");
        }
        List<Class<?>> all = new ArrayList<>(List.of(TypeTutor.class.getDeclaredClasses()));
        check(all.size() <= 12, "there are many classes");
        all.add(TypeTutor.class);
        for (Class<?> one : all) {
            for (Field field : one.getDeclaredFields()) {
                check(Modifier.isPrivate(field.getModifiers()), field + " is not private");
                check(!Modifier.isStatic(field.getModifiers()) || Modifier.isFinal(field.getModifiers()), field + " is no constant");
            }
            for (Method method : one.getDeclaredMethods()) {
                boolean isPrivate = Modifier.isPrivate(method.getModifiers());
                check(isPrivate || one == TypeTutor.class, method + " is not private");
                check(!isPrivate || !names.contains(method.getName()), method + " bears a name of the face");
                check(method.getParameterCount() <= 7, method + " takes much");
            }
        }
    }

    private static void checkText(List<String> lines) {
        int start = 0;
        for (int k = 0; k < lines.size(); k++) {
            String line = lines.get(k);
            for (int i = 0; i < line.length(); i++) {
                check(line.charAt(i) >= 32 && line.charAt(i) < 127, "line " + (k + 1) + " has a strange sign");
            }
            check(line.length() <= 120, "line " + (k + 1) + " is long");
            String code = line.trim().startsWith("*") || line.trim().startsWith("/") ? "" : line;
            for (String word : FORBIDDEN) {
                check(!code.contains(word), "line " + (k + 1) + " has " + word);
            }
            if (code.startsWith("import ")) {
                check(code.equals("import java.util.Arrays;") || code.equals("import java.util.NoSuchElementException;"), code);
            }
            if (code.endsWith("{") && code.matches(" {4}( {4})?[a-z].*\\).*")) {
                start = k;
            }
            if (code.equals("    }") || code.equals("        }")) {
                check(k - start <= 60, "the method behind line " + (start + 1) + " is long");
            }
        }
    }

    public static void main(String[] arguments) throws Exception {
        checkMembers();
        checkText(Files.readAllLines(Path.of("src/main/java/TypeTutor.java"), StandardCharsets.ISO_8859_1));
        System.out.println(wrong == 0 ? "FaceTest: all is as due" : "FaceTest: " + wrong + " faults");
        if (wrong != 0) {
            System.exit(1);
        }
    }
}
