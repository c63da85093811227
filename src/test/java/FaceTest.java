import java.lang.reflect.Constructor;
import java.lang.reflect.Executable;
import java.lang.reflect.Field;
import java.lang.reflect.Member;
import java.lang.reflect.Method;
import java.lang.reflect.Modifier;
import java.nio.file.Files;
import java.nio.file.Path;
import java.util.ArrayList;
import java.util.List;
import java.util.Set;
import java.util.TreeSet;
import java.util.regex.Matcher;
import java.util.regex.Pattern;
import java.util.stream.Collectors;
import java.util.stream.Stream;

/** Whether the class has the public face that ../shared/DOC.md shows, each member as it stands there, and no other. */
public final class FaceTest {
    private static final Path DOCUMENT = Path.of("../shared/DOC.md");

    public static void main(String[] args) throws Exception {
        if (!Files.exists(DOCUMENT)) {
            System.out.println("there is no " + DOCUMENT + " to compare with");
            return;
        }
        Set<String> due = dueMembers(Files.readString(DOCUMENT));
        Set<String> open = openMembers();
        List<String> complaints = new ArrayList<>();
        for (String member : due) if (!open.contains(member)) complaints.add("missing: " + member);
        for (String member : open) if (!due.contains(member)) complaints.add("not in the document: " + member);
        for (String complaint : complaints) System.out.println(complaint);
        System.out.println(due.size() + " members of the face, " + complaints.size() + " complaints");
        if (due.size() < 2 || !complaints.isEmpty()) System.exit(1);
    }

    /** The block of Java in the document, a member a line; its parameters without their names, its constants one by one. */
    private static Set<String> dueMembers(String document) {
        Set<String> due = new TreeSet<>();
        int from = document.indexOf("```java");
        int to = document.indexOf("```", from + 3);
        if (from < 0 || to < 0) return due;
        for (String line : document.substring(from + "```java".length(), to).split("\n")) {
            String member = line.trim();
            Matcher constants = Pattern.compile("(public static final int) (.*);").matcher(member);
            Matcher call = Pattern.compile("(public .*)\\((.*)\\);").matcher(member);
            if (constants.matches()) {
                for (String constant : constants.group(2).split(", ")) due.add(constants.group(1) + " " + constant);
            } else if (call.matches()) {
                due.add(call.group(1) + "(" + call.group(2).replaceAll(" [a-zA-Z]+(?=,|$)", "") + ")");
            } else if (member.endsWith("{")) {
                due.add(member);
            }
        }
        return due;
    }

    /** All of the class that isn't private, written as the document writes it. */
    private static Set<String> openMembers() throws Exception {
        Class<?> ring = PeaceRing.class;
        Set<String> open = new TreeSet<>();
        open.add(Modifier.toString(ring.getModifiers()) + " class " + ring.getName() + " {");
        for (Field f : ring.getDeclaredFields()) {
            if (isOpen(f)) open.add(Modifier.toString(f.getModifiers()) + " " + f.getType() + " " + f.getName() + " = " + f.get(null));
        }
        for (Constructor<?> made : ring.getDeclaredConstructors()) if (isOpen(made)) open.add(written(made, ""));
        for (Method m : ring.getDeclaredMethods()) if (isOpen(m)) open.add(written(m, m.getReturnType() + " "));
        return open;
    }

    private static boolean isOpen(Member member) {
        return !Modifier.isPrivate(member.getModifiers()) && !member.isSynthetic();
    }

    private static String written(Executable call, String answer) {
        String told = Stream.of(call.getParameterTypes()).map(Class::getName).collect(Collectors.joining(", "));
        return Modifier.toString(call.getModifiers()) + " " + answer + call.getName() + "(" + told + ")";
    }
}
