import java.io.IOException;
import java.lang.reflect.Field;
import java.lang.reflect.Method;
import java.lang.reflect.Modifier;
import java.nio.file.Files;
import java.nio.file.Path;
import java.util.ArrayList;
import java.util.Arrays;
import java.util.List;
import java.util.TreeSet;

/** What of LANGUAGE.md and of the document's face can be seen by a machine. */
public final class LanguageTest {
    private static final String FACE = "hand/5 drop/0 strip/1 sliver/1 cut/2 turn/1 loop/1 seam/1 splice/3 machine/3 copy/2"
            + " speed/4 lose/1 hang/2 nail/1 read/2 marked/2 go/1 sample/2 told/2 feed/5 end/1 fault/0 score/0 make/2 fails/2"
            + " out/1 why/2 lead/3 quarrel/1 open/1 turns/1 turnOf/2 deep/1 tape/1 wipe/0 near/4 rivals/3 remade/2 stretch/3"
            + " unfound/2 count/1";
    private static final String BOOLEANS = "sliver lose hang read end";

    public static void main(String[] args) throws IOException {
        face();
        members();
        source();
        Due.close();
    }

    private static void face() {
        Class<?> studio = TapeStudio.class;
        Due.yes("the class is public", Modifier.isPublic(studio.getModifiers()));
        Due.yes("the class is final", Modifier.isFinal(studio.getModifiers()));
        TreeSet<String> due = new TreeSet<>(Arrays.asList(FACE.split(" ")));
        TreeSet<String> got = new TreeSet<>();
        for (Method m : studio.getDeclaredMethods()) {
            if (Modifier.isPrivate(m.getModifiers())) continue;
            got.add(m.getName() + "/" + m.getParameterCount());
            boolean yes = Arrays.asList(BOOLEANS.split(" ")).contains(m.getName());
            Due.yes(m + " answers as the face tells", m.getReturnType() == (yes ? boolean.class : int.class));
            Due.yes(m + " is public", Modifier.isPublic(m.getModifiers()) && !Modifier.isStatic(m.getModifiers()));
            for (Class<?> type : m.getParameterTypes()) Due.yes(m + " takes ints", type == int.class);
        }
        Due.yes("the methods are those of the face: " + got, got.equals(due));
        Due.is("constructors", studio.getDeclaredConstructors().length, 1);
        for (Field f : studio.getDeclaredFields()) {
            Due.yes(f + " is private or NONE", Modifier.isPrivate(f.getModifiers()) || f.getName().equals("NONE"));
        }
    }

    private static void members() {
        List<String> names = new ArrayList<>();
        for (String one : FACE.split(" ")) names.add(one.substring(0, one.indexOf('/')));
        Class<?>[] inside = TapeStudio.class.getDeclaredClasses();
        Due.yes("some twelve classes at most", inside.length <= 11);
        Class<?>[] all = Arrays.copyOf(inside, inside.length + 1);
        all[inside.length] = TapeStudio.class;
        for (Class<?> one : all) {
            Due.yes(one + " has no classes inside", one == TapeStudio.class || one.getDeclaredClasses().length == 0);
            Due.yes(one + " is static", one == TapeStudio.class || Modifier.isStatic(one.getModifiers()));
            int fields = 0;
            for (Field f : one.getDeclaredFields()) {
                if (Modifier.isStatic(f.getModifiers())) Due.yes(f + " is final", Modifier.isFinal(f.getModifiers()));
                else fields++;
            }
            Due.yes(one + " has twenty fields at most", fields <= 20);
            for (Method m : one.getDeclaredMethods()) {
                Due.yes(m + " has seven parameters at most", m.getParameterCount() <= 7);
                if (one != TapeStudio.class || Modifier.isPrivate(m.getModifiers())) {
                    Due.no(m + " bears the name of a public one", names.contains(m.getName()));
                }
            }
        }
    }

    private static void source() throws IOException {
        String source = Files.readString(Path.of("src/main/java/TapeStudio.java"));
        for (char sign : source.toCharArray()) if (sign > 126) Due.is("a sign of the source", sign, 126);
        String code = source.replaceAll("(?s)/\\*.*?\\*/", " ").replaceAll("//[^\n]*", " ");
        String bare = code.replaceAll("'(\\\\.|[^'])'", "0").replaceAll("\"[^\"]*\"", "0");
        for (String word : ("throw throws try catch finally synchronized assert instanceof double float long[] Object Exception"
                + " Thread System.out System.nanoTime Random package protected volatile transient native var record yield"
                + " toString hashCode equals Exact").split(" ")) {
            boolean there = java.util.regex.Pattern.compile("(?<![A-Za-z])" + java.util.regex.Pattern.quote(word)
                    + "(?![A-Za-z])").matcher(bare).find();
            Due.no("the word " + word, there);
        }
        Due.no("lambdas or method references", bare.contains("->") || bare.contains("::"));
        for (String line : bare.split("\n")) {
            if (line.startsWith("import ")) Due.yes(line, line.equals("import java.util.Arrays;"));
        }
        methodLengths(bare);
    }

    private static void methodLengths(String bare) {
        int begin = 0;
        String[] lines = bare.split("\n", -1);
        for (int i = 0; i < lines.length; i++) {
            if (lines[i].matches("( {4}| {8})[A-Za-z].*\\) \\{")) begin = i;
            if (lines[i].matches("( {4}| {8})\\}") && i - begin > 60) Due.yes("short: " + lines[begin],
                    !lines[begin].contains("("));
        }
    }
}
