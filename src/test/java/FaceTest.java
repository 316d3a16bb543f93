import com.sun.management.ThreadMXBean;
import java.io.IOException;
import java.lang.management.ManagementFactory;
import java.lang.reflect.Field;
import java.lang.reflect.Method;
import java.lang.reflect.Modifier;
import java.nio.file.Files;
import java.nio.file.Path;
import java.util.List;
import java.util.TreeSet;
import java.util.regex.Matcher;
import java.util.regex.Pattern;
import support.Due;

/** The public face, the rules of LANGUAGE.md that a look at the file can tell, and the room that calls take. */
public final class FaceTest {
    private static final Path SOURCE = Path.of("src/main/java/WarmHouses.java");
    private static final List<String> FACE = List.of("thing()", "hold(int,int)", "release(int)", "tie(int,int,int)",
        "loosen(int,int)", "pin(int)", "unpin(int)", "winter(int)", "full()", "thingOf(int,int)", "houseOf(int,int)",
        "handOf(int)", "noteAt(int)", "needed(int)", "survivors(int,int)", "keptBy(int)", "far(int)", "count(int)",
        "undo()", "type(int)", "clearText()", "fault(int)", "play()");
    private static final List<String> CONSTANTS = List.of("INVALID_ARGUMENT", "NOT_POSSIBLE", "LIMIT_REACHED", "NOT_FOUND");
    private static final Due due = new Due();

    public static void main(String[] args) throws IOException {
        face();
        privateNames();
        words();
        room();
        due.end();
    }

    private static String signature(Method method) {
        StringBuilder text = new StringBuilder(method.getName()).append('(');
        for (Class<?> type : method.getParameterTypes()) {
            text.append(text.charAt(text.length() - 1) == '(' ? "" : ",").append(type.getName());
        }
        return text.append(')').toString();
    }

    private static void face() {
        due.promise("face");
        TreeSet<String> open = new TreeSet<>();
        for (Method method : WarmHouses.class.getDeclaredMethods()) {
            if (!Modifier.isPrivate(method.getModifiers())) {
                open.add(signature(method));
                due.holds(method + " is public and answers an int",
                    method.getReturnType() == int.class && method.getModifiers() == Modifier.PUBLIC);
            }
        }
        due.holds("the methods are those of the face", open.equals(new TreeSet<>(FACE)));
        due.holds("the class is public and final", WarmHouses.class.getModifiers() == (Modifier.PUBLIC | Modifier.FINAL));
        due.is("constructors", WarmHouses.class.getDeclaredConstructors().length, 1);
        due.is("constructors without arguments", WarmHouses.class.getConstructors()[0].getParameterCount(), 0);
        int fields = 0;
        for (Field field : WarmHouses.class.getDeclaredFields()) {
            int kind = field.getModifiers();
            due.holds(field + " is private or of the face", Modifier.isPrivate(kind) || CONSTANTS.contains(field.getName()));
            due.holds(field + " is final if static", !Modifier.isStatic(kind) || Modifier.isFinal(kind));
            fields += Modifier.isStatic(kind) ? 0 : 1;
        }
        due.holds("at most twenty fields", fields <= 20);
        for (Class<?> inside : WarmHouses.class.getDeclaredClasses()) {
            due.holds(inside + " is static and not public", Modifier.isStatic(inside.getModifiers())
                && !Modifier.isPublic(inside.getModifiers()) && !Modifier.isProtected(inside.getModifiers()));
        }
        due.is("INVALID_ARGUMENT", WarmHouses.INVALID_ARGUMENT, -1000001);
        due.is("NOT_POSSIBLE", WarmHouses.NOT_POSSIBLE, -1000002);
        due.is("LIMIT_REACHED", WarmHouses.LIMIT_REACHED, -1000003);
        due.is("NOT_FOUND", WarmHouses.NOT_FOUND, -1000004);
    }

    /** No private method, of the class or of one inside it, bears the name of a public one. */
    private static void privateNames() {
        due.promise("names");
        TreeSet<String> names = new TreeSet<>();
        for (String signature : FACE) {
            names.add(signature.substring(0, signature.indexOf('(')));
        }
        for (Method method : WarmHouses.class.getDeclaredMethods()) {
            due.holds(method.toString(), Modifier.isPublic(method.getModifiers()) || !names.contains(method.getName()));
        }
        for (Class<?> inside : WarmHouses.class.getDeclaredClasses()) {
            for (Method method : inside.getDeclaredMethods()) {
                due.holds(method.toString(), !names.contains(method.getName()));
            }
        }
    }

    private static void words() throws IOException {
        due.promise("words");
        String source = Files.readString(SOURCE);
        String code = source.replaceAll("(?s)/\\*.*?\\*/", "").replaceAll("//[^\n]*", "");
        Matcher banned = Pattern.compile("\\b(throw|throws|try|catch|finally|synchronized|assert|import|package|equals|hashCode"
            + "|toString|Random|System\\.(?!arraycopy)\\w+|\\w+Exact)\\b|->|::|\"").matcher(code);
        while (banned.find()) {
            due.holds("no " + banned.group() + " in the class", false);
        }
        due.holds("the signs are of ASCII", source.chars().allMatch(sign -> sign == '\n' || sign >= 32 && sign <= 126));
        for (String title : List.of("things, hands, strings", "winters", "what there is", "texts")) {
            due.holds("---- " + title, source.contains("    // ---- " + title + "\n"));
        }
    }

    /** No call makes an object: calls of any number fit in the room that the constructor takes. */
    private static void room() {
        due.promise("room");
        WarmHouses x = new WarmHouses();
        ThreadMXBean threads = (ThreadMXBean) ManagementFactory.getThreadMXBean();
        long thread = Thread.currentThread().getId();
        everyCall(x);
        threads.getThreadAllocatedBytes(thread);
        long before = threads.getThreadAllocatedBytes(thread);
        for (int i = 0; i < 1000; i++) {
            everyCall(x);
        }
        long made = threads.getThreadAllocatedBytes(thread) - before;
        due.holds("30 000 calls made " + made + " bytes", made < 10_000);
    }

    private static void everyCall(WarmHouses x) {
        x.thing();
        x.hold(0, 0);
        x.tie(0, 0, 0);
        x.pin(0);
        x.winter(0);
        x.full();
        x.loosen(0, 0);
        x.unpin(0);
        x.release(0);
        for (int what = 0; what < 14; what++) {
            x.thingOf(0, what);
            x.houseOf(0, what);
            x.needed(what);
            x.survivors(0, what);
            x.count(what);
        }
        x.handOf(0);
        x.noteAt(0);
        x.keptBy(0);
        x.far(0);
        x.type('n');
        x.type(';');
        x.fault(0);
        x.play();
        x.undo();
        x.clearText();
        for (int i = 0; i < 4; i++) {
            x.undo();
        }
    }
}
