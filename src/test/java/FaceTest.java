import java.lang.reflect.Constructor;
import java.lang.reflect.Field;
import java.lang.reflect.Method;
import java.lang.reflect.Modifier;
import java.nio.file.Files;
import java.nio.file.Path;
import java.util.Arrays;
import java.util.Set;
import java.util.TreeSet;

/** The face just as the document writes it, and what LANGUAGE.md says of the file that can be seen without a reader. */
final class FaceTest {
    private static final String[] FACE = {
        "int lump(int int)", "int lumps(int int int)", "int mend(int int int)", "int of(int int)", "int counter(int)",
        "int set(int int)", "int floor(int int)", "int load(int)", "int shake(int)", "int feed(int int)", "int law()",
        "int water(int)", "int run(int int int int)", "int led(int int)", "int did(int)", "int fear(int)", "int may(int int)",
        "int weight(int)", "int spread(int int int)", "int loads(int int int int)", "int best(int int int)",
        "int never(int int int)", "int beside(int int)", "int undo()", "int redo()", "int body(int)", "int act(int int int)",
        "int trace(int)", "int keep(int int)", "int row(int int int)", "int put(int int long)", "long element(int int)",
        "int shift(int int int int int)", "int taken(int int)", "int count(int)"};

    public static void main(String[] args) throws Exception {
        constants();
        face();
        inside();
        if (Files.exists(Path.of("src/main/java/MachineWalks.java"))) text();
        Due.end();
    }

    static void constants() throws Exception {
        Due.due("BAD", MachineWalks.BAD, -1);
        Due.due("NOT", MachineWalks.NOT, -2);
        Due.due("FULL", MachineWalks.FULL, -3);
        Due.due("STATE", MachineWalks.STATE, -5);
        Due.due("VOID", MachineWalks.VOID, -2000000000);
        Set<String> open = new TreeSet<>();
        for (Field f : MachineWalks.class.getDeclaredFields()) {
            if (!Modifier.isPrivate(f.getModifiers())) open.add(Modifier.toString(f.getModifiers()) + " " + f.getName());
        }
        String lead = "public static final ";
        Due.holds("no other field is open: " + open,
            open.equals(Set.of(lead + "BAD", lead + "NOT", lead + "FULL", lead + "STATE", lead + "VOID")));
    }

    static void face() {
        Set<String> open = new TreeSet<>();
        for (Method m : MachineWalks.class.getDeclaredMethods()) {
            if (Modifier.isPrivate(m.getModifiers())) continue;
            Due.holds(m.getName() + " is public and an object's", m.getModifiers() == Modifier.PUBLIC);
            open.add(m.getReturnType() + " " + m.getName() + types(m.getParameterTypes()));
        }
        Due.holds("the methods of the face: " + open, open.equals(new TreeSet<>(Arrays.asList(FACE))));
        Constructor<?>[] made = MachineWalks.class.getDeclaredConstructors();
        Due.holds("one public constructor", made.length == 1 && made[0].getModifiers() == Modifier.PUBLIC
            && made[0].getParameterCount() == 0);
        Due.holds("public and final", MachineWalks.class.getModifiers() == (Modifier.PUBLIC | Modifier.FINAL));
    }

    static String types(Class<?>[] types) {
        StringBuilder b = new StringBuilder("(");
        for (Class<?> t : types) b.append(b.length() > 1 ? " " : "").append(t.getName());
        return b.append(")").toString();
    }

    static void inside() {
        Set<String> names = new TreeSet<>();
        for (String f : FACE) names.add(f.substring(f.indexOf(' ') + 1, f.indexOf('(')));
        Class<?>[] classes = MachineWalks.class.getDeclaredClasses();
        Due.holds("some twelve classes", classes.length <= 11);
        for (Class<?> c : classes) {
            int m = c.getModifiers();
            Due.holds(c + " is static and not public", Modifier.isStatic(m) && !Modifier.isPublic(m) && !Modifier.isProtected(m));
            for (Method k : c.getDeclaredMethods()) Due.holds(k + " bears no name of the face", !names.contains(k.getName()));
            members(c);
        }
        for (Method k : MachineWalks.class.getDeclaredMethods()) {
            Due.holds(k + " bears no name of the face", !Modifier.isPrivate(k.getModifiers()) || !names.contains(k.getName()));
        }
        members(MachineWalks.class);
    }

    static void members(Class<?> c) {
        int fields = 0;
        for (Field f : c.getDeclaredFields()) {
            if (!Modifier.isStatic(f.getModifiers())) fields++;
            else Due.holds(f + " is final", Modifier.isFinal(f.getModifiers()));
        }
        Due.holds(c + " has some twenty fields", fields <= 20);
        for (Method k : c.getDeclaredMethods()) {
            Due.holds(k + " takes seven parameters at most", k.getParameterCount() <= 7);
        }
    }

    static void text() throws Exception {
        String text = Files.readString(Path.of("src/main/java/MachineWalks.java"));
        Due.holds("ASCII", text.chars().allMatch(ch -> ch < 128));
        String bare = text.replaceAll("(?s)/\\*.*?\\*/", " ").replaceAll("//[^\n]*", " ")
            .replaceAll("'(\\\\.|[^'])'", "0").replaceAll("\"[^\"]*\"", "\"\"");
        String[] words = {"throw", "throws", "try", "catch", "finally", "synchronized", "assert", "import", "package", "volatile",
            "native", "transient", "protected", "Object", "Class", "Thread", "System.out", "System.exit", "Random"};
        for (String w : words) {
            Due.holds("no " + w, !bare.matches("(?s).*(?<!\\w)" + w.replace(".", "\\.") + "(?!\\w).*"));
        }
        for (String sign : new String[] {"->", "::", "while (true)", "for (;;)", "\"\" +", "+ \"\"", "@"}) {
            Due.holds("no " + sign, !bare.contains(sign));
        }
        int begun = 0;
        int line = 0;
        for (String l : text.split("\n")) {
            line++;
            Due.holds("line " + line + " is of 120 signs at most", l.length() <= 120);
            if (l.matches(" +(public |private |static |final )*[A-Za-z\\[\\]]* ?\\w+\\(.*\\) \\{") && !l.contains(" new ")
                && !l.matches(" +(if|for|while|switch|\\} else).*")) begun = line;
            if (l.matches("    (    )?\\}") && begun > 0) {
                Due.holds("the method at line " + begun + " is short", line - begun <= 60);
                begun = 0;
            }
        }
    }
}
