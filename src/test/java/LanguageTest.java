import java.lang.reflect.Constructor;
import java.lang.reflect.Field;
import java.lang.reflect.Method;
import java.lang.reflect.Modifier;
import java.nio.charset.StandardCharsets;
import java.nio.file.Files;
import java.nio.file.Path;
import java.util.ArrayList;
import java.util.Arrays;
import java.util.List;
import java.util.Set;
import java.util.TreeSet;
import java.util.regex.Matcher;
import java.util.regex.Pattern;

/** The rules of LANGUAGE.md that a program can look at, and the face of the class. */
public final class LanguageTest {
    private static final Check CHECK = new Check("language");
    private static final String FACE = "int folk(int)|int of(int,int)|int asks(int,int,int)|int terms(int,int)"
            + "|int feed(int,int,int,int,int)|int end(int)|int row()|int crumbs()|int law()|int orders()|int fault()"
            + "|int stopped()|int force(int)|int harm(int,int,int)|int feast(int)|int pardon(int,int)|int pass()|int undo()"
            + "|int largest(int)|int tables(int)|int newHarms(int)|int leftOut(int)|int seat(int,int)|int chain(int,int,int)"
            + "|int circles()|int bridges(int)|int sat(int)|int forget()|int doubted(int)|int fitting(int)|int ask(int,int)"
            + "|int lasts(int)|int fedBy(int)|long few(int,int)|int compare(int)|int seasons(int,int)|int drawn(int,int)"
            + "|int image(int)|int back(int)|int count(int)|int status()";

    private static String shape(Method m) {
        StringBuilder shape = new StringBuilder(m.getReturnType().getName()).append(' ').append(m.getName()).append('(');
        for (int k = 0; k < m.getParameterCount(); k++) {
            shape.append(k > 0 ? "," : "").append(m.getParameterTypes()[k].getName());
        }
        return shape.append(')').toString();
    }

    private static void face() {
        Set<String> shown = new TreeSet<>();
        Set<String> names = new TreeSet<>();
        for (Method m : BrokenBread.class.getDeclaredMethods()) {
            if (Modifier.isPublic(m.getModifiers())) {
                shown.add(shape(m));
                names.add(m.getName());
                CHECK.isSo(m.getName() + " is not static", !Modifier.isStatic(m.getModifiers()));
            }
        }
        CHECK.isSo("the public methods are those of the face: " + shown,
                shown.equals(new TreeSet<>(Arrays.asList(FACE.split("\\|")))));
        Constructor<?>[] made = BrokenBread.class.getDeclaredConstructors();
        CHECK.isSo("one constructor", made.length == 1 && Modifier.isPublic(made[0].getModifiers())
                && made[0].getParameterCount() == 0);
        CHECK.isSo("final", Modifier.isFinal(BrokenBread.class.getModifiers()));
        for (Field f : BrokenBread.class.getDeclaredFields()) {
            CHECK.isSo("field " + f.getName(), f.getName().equals("NONE") == !Modifier.isPrivate(f.getModifiers()));
        }
        List<Class<?>> all = new ArrayList<>(Arrays.asList(BrokenBread.class.getDeclaredClasses()));
        CHECK.isSo("some twelve classes", all.size() < 12);
        all.add(BrokenBread.class);
        all.forEach(c -> one(c, names));
    }

    private static void one(Class<?> c, Set<String> names) {
        int fields = 0;
        for (Field f : c.getDeclaredFields()) {
            boolean fixed = Modifier.isStatic(f.getModifiers());
            CHECK.isSo(c + " " + f.getName() + ": static means final", !fixed || Modifier.isFinal(f.getModifiers()));
            fields += fixed ? 0 : 1;
        }
        CHECK.isSo(c + " has some twenty fields: " + fields, fields <= 20);
        CHECK.isSo(c + " is static", c == BrokenBread.class || Modifier.isStatic(c.getModifiers()));
        for (Constructor<?> made : c.getDeclaredConstructors()) {
            // What is handed to one while the object is made would be a part of that object (rule 12).
            CHECK.isSo(made + " is handed numbers alone",
                    Arrays.stream(made.getParameterTypes()).allMatch(Class::isPrimitive));
        }
        for (Method m : c.getDeclaredMethods()) {
            CHECK.isSo(c + " " + m.getName() + " takes seven at most", m.getParameterCount() <= 7);
            boolean shown = c == BrokenBread.class && Modifier.isPublic(m.getModifiers());
            CHECK.isSo(c + " " + m.getName() + " bears no public name", shown || !names.contains(m.getName()));
            CHECK.isSo(c + " " + m.getName() + " is shown or private", c != BrokenBread.class
                    || Modifier.isPublic(m.getModifiers()) || Modifier.isPrivate(m.getModifiers()));
        }
    }

    private static void source() throws java.io.IOException {
        String text = Files.readString(Path.of("src/main/java/BrokenBread.java"), StandardCharsets.US_ASCII);
        String code = text.replaceAll("(?s)/\\*.*?\\*/", "").replaceAll("//[^\n]*", "")
                .replaceAll("\"[^\"\n]*\"", "\"\"").replaceAll("'[^'\n]'", "0");
        String[] words = {"throw", "throws", "try", "catch", "finally", "synchronized", "assert", "import", "package",
            "instanceof", "record", "enum", "Object", "float", "double", "var", "yield", "hashCode", "equals", "toString",
            "volatile", "transient", "native", "protected", "Exception", "Random", "Thread"};
        for (String word : words) {
            CHECK.isSo("no " + word, !Pattern.compile("\\b" + word + "\\b").matcher(code).find());
        }
        CHECK.isSo("no lambda", !code.contains("->"));
        CHECK.isSo("no method reference", !code.contains("::"));
        CHECK.isSo("no Exact", !code.contains("Exact"));
        CHECK.isSo("no static block", !Pattern.compile("static\\s*\\{").matcher(code).find());
        Matcher calls = Pattern.compile("\\b(System|Arrays|Math|Integer|Long)\\.(\\w+)").matcher(code);
        Set<String> known = Set.of("System.arraycopy", "Math.max", "Math.min", "Math.abs", "Integer.bitCount");
        while (calls.find()) {
            CHECK.isSo("known: " + calls.group(), known.contains(calls.group()));
        }
        lengths(text);
    }

    /** A method begins with a line that ends with ") {" at the depth of members, and ends with its own bracket. */
    private static void lengths(String text) {
        String[] lines = text.split("\n");
        for (int i = 0; i < lines.length; i++) {
            Matcher head = Pattern.compile("^(    |        )(public|private|static|void|int|long|boolean|Script)\\b.*\\) \\{$")
                    .matcher(lines[i]);
            if (head.find()) {
                int j = i;
                while (!lines[j].equals(head.group(1) + "}")) {
                    j++;
                }
                CHECK.isSo("sixty lines at most: " + lines[i].trim() + " has " + (j - i + 1), j - i + 1 <= 60);
            }
        }
    }

    public static void main(String[] args) throws java.io.IOException {
        face();
        source();
        CHECK.close();
    }
}
