import java.lang.reflect.Constructor;
import java.lang.reflect.Field;
import java.lang.reflect.Method;
import java.lang.reflect.Modifier;
import java.nio.file.Files;
import java.nio.file.Path;
import java.util.Arrays;
import java.util.Set;
import java.util.TreeSet;

/** The public face, no more and no less, and the rules of the language that a look can tell. */
public final class FaceTest {
    private static final Due DUE = new Due();

    private static final String[] FACE = {
        "boolean levels(int)", "boolean level(int,int)", "int berth(int,int)", "int boat(int,int,int,int)",
        "boolean away(int,int,int)", "int stay(int,int,int)", "boolean leaves(int,int)", "int home(int,int)",
        "int moved(int,int)", "int stayOf(int,int)", "int lies(int,int)", "int boatOf(int,int)",
        "int fits(int,int,int)", "boolean hoist(int,int,int)", "boolean broken(int,boolean)",
        "int lift(int,int,int)", "int lifted(int)", "boolean shed(int,int)", "int winter(int,int)", "int moves()",
        "int lane(int)", "int feed(int,int,int,int,int)", "int end(int)", "int rule(int)", "int fault(int)",
        "int says(int,int,int,int)", "int owes(int)", "int about(int)"};

    public static void main(String[] args) throws Exception {
        theFaceIsTheDocuments();
        classesInsideAreStaticAndHidden();
        theTextKeepsToTheLanguage();
        DUE.finish();
    }

    private static void theFaceIsTheDocuments() {
        Set<String> found = new TreeSet<>();
        Set<String> names = new TreeSet<>();
        for (Method m : SmallHarbour.class.getDeclaredMethods()) {
            if (Modifier.isPublic(m.getModifiers())) {
                String types = Arrays.stream(m.getParameterTypes()).map(Class::getName)
                    .reduce((a, b) -> a + "," + b).orElse("");
                found.add(m.getReturnType().getName() + " " + m.getName() + "(" + types + ")");
                names.add(m.getName());
            } else {
                DUE.yes(m + " is private", Modifier.isPrivate(m.getModifiers()) || m.isSynthetic());
            }
        }
        DUE.yes("the methods: " + found, found.equals(new TreeSet<>(Arrays.asList(FACE))));
        for (Method m : SmallHarbour.class.getDeclaredMethods()) {
            DUE.yes(m + " has a name of its own", Modifier.isPublic(m.getModifiers()) || !names.contains(m.getName()));
        }
        for (Class<?> inside : SmallHarbour.class.getDeclaredClasses()) {
            for (Method m : inside.getDeclaredMethods()) {
                DUE.no(m + " has the name of a public one", names.contains(m.getName()));
            }
        }
        for (Field f : SmallHarbour.class.getDeclaredFields()) {
            boolean isNone = f.getName().equals("NONE") && Modifier.isPublic(f.getModifiers());
            DUE.yes(f + " is private", isNone || Modifier.isPrivate(f.getModifiers()));
        }
        Constructor<?>[] makers = SmallHarbour.class.getDeclaredConstructors();
        DUE.is("constructors", makers.length, 1);
        DUE.yes("the constructor is public", Modifier.isPublic(makers[0].getModifiers()));
        DUE.yes("the class is final", Modifier.isFinal(SmallHarbour.class.getModifiers()));
    }

    private static void classesInsideAreStaticAndHidden() {
        DUE.yes("at most twelve classes", SmallHarbour.class.getDeclaredClasses().length <= 11);
        for (Class<?> inside : SmallHarbour.class.getDeclaredClasses()) {
            DUE.yes(inside + " is static", Modifier.isStatic(inside.getModifiers()));
            DUE.no(inside + " is public", Modifier.isPublic(inside.getModifiers()));
            long fields = Arrays.stream(inside.getDeclaredFields())
                .filter(f -> !Modifier.isStatic(f.getModifiers())).count();
            DUE.yes(inside + " has at most twenty fields", fields <= 20);
        }
    }

    private static void theTextKeepsToTheLanguage() throws Exception {
        String text = Files.readString(Path.of("src/main/java/SmallHarbour.java"));
        String code = text.replaceAll("(?s)/\\*.*?\\*/", "").replaceAll("//[^\n]*", "");
        for (String word : new String[] {"throw", "throws", "try", "catch", "synchronized", "assert", "package",
            "Object", "System.out", "Random", "Thread", "equals", "hashCode", "float", "double"}) {
            DUE.no(word, code.matches("(?s).*\\b" + word.replace(".", "\\.") + "\\b.*"));
        }
        DUE.no("a lambda", code.contains("->"));
        DUE.no("a method reference", code.contains("::"));
        DUE.no("another import than Arrays", code.replace("import java.util.Arrays;", "").contains("import"));
        for (String line : text.split("\n")) {
            // Rows are made with their objects alone, so that no call takes room.
            boolean makes = line.contains(" new ") && !line.strip().startsWith("/");
            DUE.yes("made in a constructor or a field: " + line,
                !makes || line.matches("\\s*(private )?final .*") || line.matches("\\s{8}\\w+ = new .*"));
        }
    }
}
