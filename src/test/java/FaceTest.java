import java.io.IOException;
import java.lang.reflect.Constructor;
import java.lang.reflect.Field;
import java.lang.reflect.Method;
import java.lang.reflect.Modifier;
import java.nio.file.Files;
import java.nio.file.Path;
import java.util.HashSet;
import java.util.Set;
import java.util.TreeSet;
import java.util.regex.Matcher;
import java.util.regex.Pattern;

/** The public face, and those rules of LANGUAGE.md that can be seen from outside or in the text. */
public final class FaceTest {
    private static final Check check = new Check();
    private static final String FACE = "absent(int,int,boolean)boolean bar(int,int,boolean)boolean "
        + "bill(int)int buy(int,int)int clear()int count(int)int day(int)int feed(long,long,long)int "
        + "friends(int,int,boolean)boolean give(int,int)int gives(int,int,int,int,int)int gone(int)boolean "
        + "lay(int,int)int listed(int,int,int)int loss(int,int,int,int,int)int meals(int,int)int most(int)int "
        + "moved()int night()int owes(int)int person(boolean,int,boolean,int,int,int)int "
        + "personOf(int,int)int put(int,int,int)boolean read(int)int right(int)boolean "
        + "room(int,int,boolean,int)int roomOf(int,int,int)int season(int)boolean settle(int,int)int "
        + "sight(int,int,int)int start(int)boolean stays(int,int,int)boolean town(int)int "
        + "townOf(int,int)int trip(int)int tripOf(int)int way(int,int,int)boolean worth(int,int)int";

    public static void main(String[] args) throws IOException {
        members();
        text(Files.readString(Path.of("src/main/java/TourRooms.java")));
        check.end();
    }

    private static void members() {
        Class<?> face = TourRooms.class;
        check.due("public and final", Modifier.isPublic(face.getModifiers())
            && Modifier.isFinal(face.getModifiers()), true);
        Set<String> publicNames = new HashSet<>();
        Set<String> signatures = new TreeSet<>();
        for (Method m : face.getDeclaredMethods()) {
            if (!Modifier.isPrivate(m.getModifiers())) {
                publicNames.add(m.getName());
                signatures.add(m.toString().replaceAll(".*TourRooms\\.| throws .*", "") + m.getReturnType());
            }
        }
        check.due("the face " + signatures, String.join(" ", signatures).equals(FACE), true);
        for (Method m : face.getDeclaredMethods()) {
            if (Modifier.isPrivate(m.getModifiers()) && publicNames.contains(m.getName())) {
                check.fail("a private method named as a public one: " + m);
            }
        }
        for (Field f : face.getDeclaredFields()) {
            if (!Modifier.isPrivate(f.getModifiers()) && !f.getName().equals("NONE")) {
                check.fail("a field that is not private: " + f);
            }
        }
        Constructor<?>[] made = face.getDeclaredConstructors();
        check.due("one public constructor without arguments", made.length == 1
            && Modifier.isPublic(made[0].getModifiers()) && made[0].getParameterCount() == 0, true);
        check.due("classes inside and out", face.getDeclaredClasses().length + 1 <= 12, true);
        for (Class<?> inside : face.getDeclaredClasses()) {
            check.due("static: " + inside, Modifier.isStatic(inside.getModifiers()), true);
            check.due("not public: " + inside, Modifier.isPublic(inside.getModifiers()), false);
        }
    }

    private static void text(String source) {
        String code = source.replaceAll("(?s)/\\*.*?\\*/", "").replaceAll("//[^\n]*", "");
        String[] banned = {"->", "::", "Exact", "finally", "synchronized", "assert", "catch", "hashCode",
            "@", "static \\{", "System\\.(?!arraycopy)", "java\\.(?!util\\.NoSuchElementException;)",
            "throw new (?!NoSuchElementException\\()", "\\bvar\\b", "\\bdouble\\b", "\\bfloat\\b"};
        for (String word : banned) {
            Matcher m = Pattern.compile(word).matcher(code);
            if (m.find()) {
                check.fail("the text has " + m.group());
            }
        }
        for (int k = 0; k < source.length(); k++) {
            if (source.charAt(k) > 126) {
                check.fail("the text has a sign beyond 126");
            }
        }
        methodsAreShort(source);
    }

    private static void methodsAreShort(String source) {
        int began = 0;
        String[] lines = source.split("\n");
        for (int k = 0; k < lines.length; k++) {
            if (lines[k].matches(" {4}( {4})?[\\w ]*[\\w\\]] \\w+\\(.*\\{") && !lines[k].contains(" class ")) {
                began = k;
            }
            if (lines[k].matches(" {4}( {4})?\\}") && k - began > 60 && lines[began].contains("(")) {
                String indent = lines[began].substring(0, lines[began].indexOf(lines[began].strip()));
                if (lines[k].equals(indent + "}")) {
                    check.fail("a long method: " + lines[began]);
                }
            }
        }
    }
}
