import java.lang.reflect.Constructor;
import java.lang.reflect.Field;
import java.lang.reflect.Method;
import java.lang.reflect.Modifier;
import java.nio.file.Files;
import java.nio.file.Path;
import java.util.Set;
import java.util.TreeSet;

/** The public face is the document's and no more, and the file has none of the words that LANGUAGE.md rules out. */
public final class FaceTest {
    private static final String[] FACE = {
        "int feed(int,int,int,int,int)", "boolean end(int)", "int score()", "int fault(int)", "int strike(int,int)",
        "int count(int)", "boolean fists(int,int)", "int cost()", "int need()", "int by(int)", "int way(int)",
        "int tail(int,int)", "int quarrel(int)", "int quarrels()", "int sounds(int)", "boolean drum(int)",
        "int change()", "int turn()", "int pin(int,int)", "int pins()", "int play(int)", "long strikes(int)",
        "long mend(int)", "int worn(int)", "boolean image(int)", "boolean back(int)",
    };
    private static final String[] RULED_OUT = {
        "throw", "try", "catch", "synchronized", "assert", "->", "::", "Random", "System.nano", "System.current",
        "import", "Exact", "package", "protected",
    };

    public static void main(String[] args) throws Exception {
        Check check = new Check("FaceTest");
        Set<String> due = new TreeSet<>(Set.of(FACE));
        Set<String> names = new TreeSet<>();
        for (Method m : CarillonDesk.class.getDeclaredMethods()) {
            if (Modifier.isPublic(m.getModifiers())) {
                check.due("public " + line(m), due.remove(line(m)), true);
                check.due("static " + line(m), Modifier.isStatic(m.getModifiers()), false);
                names.add(m.getName());
            }
        }
        check.due("methods that are not there: " + due, due.size(), 0);
        for (Method m : CarillonDesk.class.getDeclaredMethods()) {
            boolean open = Modifier.isPublic(m.getModifiers());
            check.due("hidden " + m.getName(), !open && !m.isSynthetic() && !Modifier.isPrivate(m.getModifiers()), false);
            check.due("private with a public name " + m.getName(), !open && names.contains(m.getName()), false);
        }
        for (Field f : CarillonDesk.class.getDeclaredFields()) {
            boolean none = f.getName().equals("NONE");
            check.due("field " + f.getName(), none ? Modifier.isPublic(f.getModifiers()) : Modifier.isPrivate(f.getModifiers()), true);
        }
        Constructor<?>[] made = CarillonDesk.class.getDeclaredConstructors();
        check.due("constructors", made.length, 1);
        check.due("constructor's parameters", made[0].getParameterCount(), 0);
        check.due("constructor public", Modifier.isPublic(made[0].getModifiers()), true);
        check.due("class", CarillonDesk.class.getModifiers(), Modifier.PUBLIC | Modifier.FINAL);
        check.due("NONE", CarillonDesk.NONE, -1);
        checkWords(check);
        check.finish();
    }

    private static String line(Method m) {
        StringBuilder s = new StringBuilder(m.getReturnType().getName()).append(' ').append(m.getName()).append('(');
        for (int i = 0; i < m.getParameterCount(); i++) {
            s.append(i == 0 ? "" : ",").append(m.getParameterTypes()[i].getName());
        }
        return s.append(')').toString();
    }

    private static void checkWords(Check check) throws Exception {
        String source = Files.readString(Path.of("src/main/java/CarillonDesk.java"));
        String code = source.replaceAll("(?s)/\\*.*?\\*/", " ").replaceAll("//[^\n]*", " ");
        for (String word : RULED_OUT) {
            boolean isWord = Character.isLetter(word.charAt(0));
            boolean found = isWord ? code.matches("(?s).*\\b" + word.replace(".", "\\.") + ".*") : code.contains(word);
            check.due("the file has '" + word + "'", found, false);
        }
    }
}
