import java.io.IOException;
import java.lang.reflect.Constructor;
import java.lang.reflect.Field;
import java.lang.reflect.Method;
import java.lang.reflect.Modifier;
import java.nio.file.Files;
import java.nio.file.Path;
import java.util.ArrayList;
import java.util.List;
import java.util.TreeSet;
import java.util.regex.Pattern;

/** The public face is the document's, and the source keeps to what LANGUAGE.md shuts out by word. */
public final class FaceTest {
    private static final String[] FACE = {
        "int mine(int, int, int, int)", "int water(int, int, int)", "int change(int, int, int)",
        "int engine(int, int, int, int, int, int)", "int of(int, int)", "int stick(int, boolean)",
        "int mend(int)", "int month()", "int was(int, int, int)", "int at(int, int)",
        "int trial(int, int, int, int)", "int feed(long)", "int end(int)", "int text()", "int fault()",
        "int rule(int, int, int)", "int read(int)", "int reading(int, int)", "int pay(int, int)",
        "int owed(int, int)", "int known(int, int)", "int stop(int)", "int go(int)",
        "int theirs(int, int, int)", "int shares(int, int, int)", "int deal(int, int, int)",
        "long brings(int, int, int, int, int)", "int best(int, int, int, int)",
        "int fair(int, int, int, int, int)", "int round(int, int)", "int waits(int)",
        "int sheet(int, int, int)", "int lay(int, int, int)", "int book(int, int, int, int)",
        "int torn()", "int count(int)",
    };
    private static final String[] SHUT_OUT = {
        "throw", "throws", "try", "catch", "finally", "synchronized", "assert", "import", "new Thread", "->", "::",
        "System\\.(?!arraycopy)", "Exact\\(", "hashCode", "toString", "Random", "Integer\\.", "Long\\.",
    };

    public static void main(String[] args) throws IOException {
        members();
        privateNames();
        words();
        Check.close("FaceTest");
    }

    private static void members() {
        TreeSet<String> want = new TreeSet<>(List.of(FACE));
        TreeSet<String> got = new TreeSet<>();
        for (Method method : SavedThird.class.getDeclaredMethods()) {
            if (Modifier.isPublic(method.getModifiers())) {
                got.add(told(method));
            } else {
                Check.holds(method + " is private", Modifier.isPrivate(method.getModifiers()));
            }
        }
        Check.holds("the methods are " + want + ", not " + got, want.equals(got));
        List<String> constants = new ArrayList<>();
        for (Field field : SavedThird.class.getDeclaredFields()) {
            if (Modifier.isPublic(field.getModifiers())) {
                constants.add(field.getName());
            } else {
                Check.holds(field + " is private", Modifier.isPrivate(field.getModifiers()));
            }
            boolean isState = Modifier.isStatic(field.getModifiers()) && !Modifier.isFinal(field.getModifiers());
            Check.holds(field + " is no static state", !isState);
        }
        Check.holds("the constants", constants.equals(List.of("BAD", "STATE", "FULL", "NONE")));
        Check.due("BAD", SavedThird.BAD, -1);
        Check.due("STATE", SavedThird.STATE, -2);
        Check.due("FULL", SavedThird.FULL, -3);
        Check.due("NONE", SavedThird.NONE, -4);
        Constructor<?>[] made = SavedThird.class.getDeclaredConstructors();
        Check.holds("one public constructor", made.length == 1 && Modifier.isPublic(made[0].getModifiers()));
        Check.holds("final", Modifier.isFinal(SavedThird.class.getModifiers()));
    }

    private static String told(Method method) {
        StringBuilder told = new StringBuilder(method.getReturnType() + " " + method.getName() + "(");
        for (Class<?> type : method.getParameterTypes()) {
            told.append(told.charAt(told.length() - 1) == '(' ? "" : ", ").append(type);
        }
        return told.append(")").toString();
    }

    private static void privateNames() {
        TreeSet<String> face = new TreeSet<>();
        for (String method : FACE) {
            face.add(method.substring(method.indexOf(' ') + 1, method.indexOf('(')));
        }
        Check.holds("at most twelve classes", SavedThird.class.getDeclaredClasses().length < 12);
        for (Class<?> inside : SavedThird.class.getDeclaredClasses()) {
            Check.holds(inside + " is static", Modifier.isStatic(inside.getModifiers()));
            for (Method method : inside.getDeclaredMethods()) {
                Check.holds(method + " bears no public name", !face.contains(method.getName()));
                Check.holds(method + " takes at most seven", method.getParameterCount() <= 7);
            }
        }
        for (Method method : SavedThird.class.getDeclaredMethods()) {
            boolean isHidden = Modifier.isPrivate(method.getModifiers());
            Check.holds(method + " bears no public name", !isHidden || !face.contains(method.getName()));
        }
    }

    private static void words() throws IOException {
        String source = Files.readString(Path.of("src/main/java/SavedThird.java"));
        String code = source.replaceAll("(?s)/\\*.*?\\*/", " ").replaceAll("//[^\n]*", " ");
        for (String word : SHUT_OUT) {
            boolean isName = Character.isLetter(word.charAt(0)) && Character.isLetter(word.charAt(word.length() - 1));
            Pattern pattern = Pattern.compile(isName ? "\\b" + word + "\\b" : word);
            Check.holds("no " + word, !pattern.matcher(code).find());
        }
        Check.holds("ASCII alone", source.chars().allMatch(c -> c < 128));
    }
}
