import java.io.IOException;
import java.lang.reflect.Constructor;
import java.lang.reflect.Field;
import java.lang.reflect.Method;
import java.lang.reflect.Modifier;
import java.nio.file.Files;
import java.nio.file.Path;
import java.util.ArrayList;
import java.util.List;
import java.util.Set;
import java.util.TreeSet;
import java.util.regex.Matcher;
import java.util.regex.Pattern;

/** The face of the document, and those rules of LANGUAGE.md that can be seen from the source or by reflection. */
public final class LanguageTest {
    private static final String[] FACE = {
        "int write(long,int)", "int erase()", "int fault()", "int net()", "int room(int,int)", "int least(int,int)",
        "int hold(int,int)", "int begin(int)", "int wets(int)", "int play(int)", "int sparks(int)", "int when(int,int,int)",
        "int caught(int,int)", "int seeds(int,int)", "int ahead(int,int)", "int forced(int,int,int)", "int forcers(int)",
        "long carried(int,int,int)", "long mean(int,int)", "int token(int,int,int)", "int pairs()", "int count(int)"};
    private static final String[] BANNED = {"throw", "throws", "try", "catch", "finally", "synchronized", "assert", "import",
        "package", "volatile", "native", "Object", "System", "Thread", "Random", "Exception", "Integer.valueOf"};
    private static final Check CHECK = new Check();

    private LanguageTest() {
    }

    public static void main(String[] args) throws IOException {
        faceIsTheDocuments();
        constantsAreTheDocuments();
        insideIsPrivateAndStatic();
        sourceKeepsToTheRules(Files.readString(Path.of("src/main/java/WettedNet.java")));
        CHECK.end();
    }

    private static String signature(Method method) {
        List<String> parameters = new ArrayList<>();
        for (Class<?> type : method.getParameterTypes()) {
            parameters.add(type.getName());
        }
        return method.getReturnType().getName() + " " + method.getName() + "(" + String.join(",", parameters) + ")";
    }

    private static void faceIsTheDocuments() {
        Set<String> found = new TreeSet<>();
        for (Method method : WettedNet.class.getDeclaredMethods()) {
            if (Modifier.isPublic(method.getModifiers())) {
                found.add(signature(method));
            } else {
                CHECK.holds(method + " is private", Modifier.isPrivate(method.getModifiers()));
            }
        }
        CHECK.holds("the face is " + found, found.equals(new TreeSet<>(List.of(FACE))));
        Constructor<?>[] constructors = WettedNet.class.getDeclaredConstructors();
        CHECK.due("constructors", 1, constructors.length);
        CHECK.holds("it is public", Modifier.isPublic(constructors[0].getModifiers()));
        CHECK.due("its parameters", 0, constructors[0].getParameterCount());
        CHECK.holds("public and final", Modifier.isPublic(WettedNet.class.getModifiers())
                && Modifier.isFinal(WettedNet.class.getModifiers()));
    }

    private static void constantsAreTheDocuments() {
        CHECK.due("NONE", -1, WettedNet.NONE);
        CHECK.due("UNKNOWN", -2, WettedNet.UNKNOWN);
        CHECK.due("OUTSIDE", -3, WettedNet.OUTSIDE);
        CHECK.due("NOT", -4, WettedNet.NOT);
        CHECK.due("FULL", -5, WettedNet.FULL);
        Set<String> open = new TreeSet<>();
        for (Field field : WettedNet.class.getDeclaredFields()) {
            if (!Modifier.isPrivate(field.getModifiers())) {
                open.add(field.getName());
            }
        }
        CHECK.holds("the constants are " + open, open.equals(new TreeSet<>(List.of("NONE", "UNKNOWN", "OUTSIDE", "NOT", "FULL"))));
    }

    private static void insideIsPrivateAndStatic() {
        Set<String> open = new TreeSet<>();
        for (String signature : FACE) {
            open.add(signature.substring(signature.indexOf(' ') + 1, signature.indexOf('(')));
        }
        Class<?>[] inside = WettedNet.class.getDeclaredClasses();
        CHECK.holds("some twelve classes", inside.length <= 12);
        for (Class<?> one : inside) {
            CHECK.holds(one + " is private and static",
                    Modifier.isPrivate(one.getModifiers()) && Modifier.isStatic(one.getModifiers()));
            CHECK.holds(one + " has some twenty fields", one.getDeclaredFields().length <= 20);
            for (Method method : one.getDeclaredMethods()) {
                CHECK.holds(method + " bears no public name", !open.contains(method.getName()));
                CHECK.holds(method + " has at most seven parameters", method.getParameterCount() <= 7);
            }
            for (Field field : one.getDeclaredFields()) {
                CHECK.holds(field + ", if static, is final",
                        !Modifier.isStatic(field.getModifiers()) || Modifier.isFinal(field.getModifiers()));
            }
        }
    }

    private static void sourceKeepsToTheRules(String source) {
        String code = source.replaceAll("(?s)/\\*.*?\\*/", " ").replaceAll("//[^\n]*", " ").replaceAll("\"[^\"\n]*\"", "\"\"");
        for (String word : BANNED) {
            CHECK.holds("no " + word, !Pattern.compile("\\b" + Pattern.quote(word) + "\\b").matcher(code).find());
        }
        CHECK.holds("no lambda", !code.contains("->"));
        CHECK.holds("no method reference", !code.contains("::"));
        CHECK.holds("no static block", !Pattern.compile("static\\s*\\{").matcher(code).find());
        CHECK.holds("no while", !Pattern.compile("\\bwhile\\b").matcher(code).find());
        CHECK.holds("signs 1 to 127", source.chars().allMatch(c -> c >= 1 && c <= 127));
        Matcher method = Pattern.compile("(?m)^( +)(?:public |private |static )*(?:int|long|boolean|void|String) (\\w+)\\([^)]*\\) \\{")
                .matcher(source);
        while (method.find()) {
            int end = source.indexOf("\n" + method.group(1) + "}", method.start());
            long lines = source.substring(method.start(), end).lines().count();
            CHECK.holds(method.group(2) + " is short", lines <= 60);
        }
    }
}
