import java.lang.reflect.Constructor;
import java.lang.reflect.Field;
import java.lang.reflect.Method;
import java.lang.reflect.Modifier;
import java.nio.file.Files;
import java.nio.file.Path;
import java.util.TreeSet;

/** The public face, name by name, and words that LANGUAGE.md bans. */
public final class FaceTest {

    private static final String[] FACE = {
        "int addResource(int,int)", "int addStore(int,int)", "int addTally(int)",
        "int addScript()", "int add(int,int,int,int)", "int setHandler(int,int)",
        "int setLuck(int)", "int start(int,int,int)", "int step()", "int run(int)",
        "int interrupt(int)", "int cancel(int)", "int time()", "int luck()", "int events()",
        "int nextTime()", "int processes()", "int done()", "int stateOf(int)",
        "int placeOf(int)", "int rankOf(int)", "int restOf(int)", "int markOf(int)",
        "int eventOf(int)", "int holds(int,int)", "int free(int)", "int queued(int)",
        "int queuedAt(int,int)", "int busy(int)", "int queueing(int)", "int longest(int)",
        "int level(int)", "int blocked(int,boolean)", "int area(int)", "int awaiting(int)",
        "int tallied(int)", "int ofTally(int,int)", "int batches(int)", "int sumOf(int,int)",
        "double spread(int)", "int endOf(int,int)", "int wouldBeBusy(int,int)",
        "long digest()",
    };

    public static void main(String[] args) throws Exception {
        face();
        text();
        Check.end();
    }

    private static void face() {
        TreeSet<String> due = new TreeSet<>();
        TreeSet<String> names = new TreeSet<>();
        for (String method : FACE) {
            due.add(method);
            names.add(method.substring(method.indexOf(' ') + 1, method.indexOf('(')));
        }
        TreeSet<String> open = new TreeSet<>();
        for (Method m : Sandglass.class.getDeclaredMethods()) {
            if (!Modifier.isPrivate(m.getModifiers())) {
                Check.due(m.getName() + " is public", Modifier.PUBLIC, m.getModifiers());
                open.add(told(m));
            } else if (names.contains(m.getName())) {
                Check.fail("a private method bears the public name " + m.getName());
            }
        }
        Check.dueText("the face", due.toString(), open.toString());
        for (Field f : Sandglass.class.getDeclaredFields()) {
            if (!Modifier.isPrivate(f.getModifiers())) {
                Check.fail("the field " + f.getName() + " is not private");
            }
        }
        Constructor<?>[] constructors = Sandglass.class.getDeclaredConstructors();
        Check.due("how many constructors", 1, constructors.length);
        Check.due("its parameters", 0, constructors[0].getParameterCount());
        Check.due("public constructor", Modifier.PUBLIC, constructors[0].getModifiers());
        Check.due("public and final", Modifier.PUBLIC | Modifier.FINAL,
                Sandglass.class.getModifiers());
    }

    private static String told(Method m) {
        StringBuilder text = new StringBuilder();
        text.append(m.getReturnType().getSimpleName()).append(' ').append(m.getName());
        text.append('(');
        for (int i = 0; i < m.getParameterCount(); i++) {
            text.append(i == 0 ? "" : ",").append(m.getParameterTypes()[i].getSimpleName());
        }
        return text.append(')').toString();
    }

    private static void text() throws Exception {
        String text = Files.readString(Path.of("src/main/java/Sandglass.java"));
        String[] banned = {
            "->", "::", "catch", "finally", "instanceof", "assert ", "synchronized", "record ",
            "static {", "Exact(", "System.", "Thread", "Random", "java.io", "java.time", "import static",
            "double[]", "Object", "@",
        };
        for (String word : banned) {
            Check.due("the text has '" + word + "' at", -1, text.indexOf(word));
        }
        for (String line : text.split("\n")) {
            if (line.startsWith("import ")) {
                Check.dueText("an import", "import java.util.ArrayList;", line);
            }
        }
    }
}
