import java.io.IOException;
import java.lang.management.ManagementFactory;
import java.lang.reflect.Constructor;
import java.lang.reflect.Field;
import java.lang.reflect.Method;
import java.lang.reflect.Modifier;
import java.nio.file.Files;
import java.nio.file.Path;
import java.util.Arrays;
import java.util.Set;
import java.util.TreeSet;
import java.util.regex.Matcher;
import java.util.regex.Pattern;

/** The face of promises 1 to 28, and of LANGUAGE.md what can be looked at: run in the project's folder. */
public final class LanguageTest {
    private static final String[] FACE = {"letter(int)", "house()", "thing(int,int)", "line(int,int)", "curtain(int)",
        "move(int,int)", "pair(int,int)", "hour(int)", "seen(int,int)", "from(int,int)", "sins(int,int)", "day()",
        "curtains()", "moved(int)", "given(int)", "pairings(int)", "together(int)", "may(int)", "ways()",
        "feast(int,int)", "clean(int)", "row(int)", "judge()", "seeds(int,int)", "image()", "on()", "count(int)"};
    private static final Due DUE = new Due();

    public static void main(String[] args) throws IOException {
        face();
        words();
        callsMakeNothing();
        DUE.end();
    }

    private static void face() {
        Class<?> face = MaynotBeSeen.class;
        DUE.is("public and final", face.getModifiers(), Modifier.PUBLIC | Modifier.FINAL);
        Set<String> shown = new TreeSet<>();
        Set<String> names = new TreeSet<>();
        for (Method m : face.getDeclaredMethods()) {
            if (Modifier.isPublic(m.getModifiers())) {
                String parameters = "int,int".substring(0, Math.max(0, 4 * m.getParameterCount() - 1));
                shown.add(m.getName() + "(" + parameters + ")");
                names.add(m.getName());
                holds(m + " is of int", m.getReturnType() == int.class);
            }
        }
        holds("the face has just " + shown, shown.equals(new TreeSet<>(Arrays.asList(FACE))));
        for (Method m : face.getDeclaredMethods()) {
            boolean isHidden = Modifier.isPrivate(m.getModifiers());
            holds(m + " is public or hidden", isHidden || Modifier.isPublic(m.getModifiers()));
            holds(m + " has a name of its own", !isHidden || !names.contains(m.getName()));
        }
        for (Constructor<?> c : face.getDeclaredConstructors()) {
            holds(c + " is public and of nothing", Modifier.isPublic(c.getModifiers()) && c.getParameterCount() == 0);
        }
        for (Field f : face.getDeclaredFields()) {
            holds(f + " is private", Modifier.isPrivate(f.getModifiers()));
            holds(f + " is final if static", !Modifier.isStatic(f.getModifiers()) || Modifier.isFinal(f.getModifiers()));
        }
        for (Class<?> inside : face.getDeclaredClasses()) {
            holds(inside + " is static", Modifier.isStatic(inside.getModifiers()));
            holds(inside + " is hidden", !Modifier.isPublic(inside.getModifiers()));
        }
    }

    private static void words() throws IOException {
        String source = Files.readString(Path.of("src/main/java/MaynotBeSeen.java"));
        String code = source.replaceAll("(?s)/\\*.*?\\*/", "").replaceAll("//[^\n]*", "");
        Matcher banned = Pattern.compile("\\b(throw|throws|try|catch|synchronized|assert|import|package|protected)\\b"
                + "|->|::|\"|\\bstatic\\s*\\{|Exact\\b").matcher(code);
        while (banned.find()) {
            holds("no " + banned.group(), false);
        }
        Matcher library = Pattern.compile("\\b(System|Math|Integer|Long|Arrays|String|Object)\\.\\w+").matcher(code);
        Set<String> listed = Set.of("System.arraycopy", "Math.min", "Math.max", "Integer.bitCount");
        while (library.find()) {
            holds(library.group() + " is listed", listed.contains(library.group()));
        }
    }

    /** All objects of a run stay in its room, so a call is to make none. */
    private static void callsMakeNothing() {
        com.sun.management.ThreadMXBean threads =
                (com.sun.management.ThreadMXBean) ManagementFactory.getThreadMXBean();
        MaynotBeSeen x = Due.told("l01;l12;l23;l34;tt0;tw1;ts2;tb3;tn4;tm5;o01;o23;o45;");
        everyCall(x);
        long self = Thread.currentThread().getId();
        threads.getThreadAllocatedBytes(self);
        long before = threads.getThreadAllocatedBytes(self);
        for (int i = 0; i < 16; i++) {
            everyCall(x);
        }
        long made = threads.getThreadAllocatedBytes(self) - before;
        holds("calls make nothing, but " + made + " bytes", made < 512);
    }

    private static void everyCall(MaynotBeSeen x) {
        x.letter('h');
        x.letter('0');
        x.letter(';');
        x.house();
        x.house();
        x.thing(0, 0);
        x.line(0, 0);
        x.curtain(0);
        x.move(0, 1);
        x.pair(0, 1);
        x.hour(6);
        x.seen(0, 0);
        x.from(5, 0);
        x.sins(0, 0);
        x.day();
        x.curtains();
        x.moved(0);
        x.given(0);
        x.pairings(1);
        x.together(3);
        x.may(0);
        x.ways();
        x.feast(0, 0);
        x.clean(0);
        x.row(1);
        x.judge();
        x.seeds(30, 1);
        x.image();
        x.on();
        x.count(0);
        x.thing(9, 9);
    }

    private static void holds(String what, boolean holds) {
        DUE.is(what, holds ? 1 : 0, 1);
    }
}
