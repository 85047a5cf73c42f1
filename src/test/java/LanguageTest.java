import java.io.IOException;
import java.lang.reflect.Constructor;
import java.lang.reflect.Field;
import java.lang.reflect.Method;
import java.lang.reflect.Modifier;
import java.nio.file.Files;
import java.nio.file.Path;
import java.util.ArrayList;
import java.util.List;
import java.util.Set;
import java.util.TreeSet;
import java.util.regex.Matcher;
import java.util.regex.Pattern;

/** The rules of LANGUAGE.md that can be read off the source or the class, and the document's public face. */
public final class LanguageTest {
    private static final Check CHECK = new Check("LanguageTest");
    private static final String FACE = "feed:5 end:1 town:0 fault:1 street:2 uses:3 left:3 beside:1 corner:2 errand:2 take:3 give:3 "
            + "undo:0 anew:0 led:2 bare:2 way:2 stop:3 streets:2 buy:2 bought:2 lane:3 reach:1 shut:0 key:0 loss:3 flow:2 cut:2 "
            + "wall:3 day:0 goes:1 fails:0 dusk:0 spent:3 dawn:0 first:1 least:0 spares:1 demand:3 dearest:0 noon:1 round:0 "
            + "uneven:0 wins:2 turn:2 chase:3 walks:3 sure:3 ends:2 wide:2 fits:2 gone:2 march:1 length:1 drawn:4 strays:5 "
            + "build:3 law:4 send:4 count:1 keep:1 back:1 row:3 write:3 paste:5";

    public static void main(String[] args) throws IOException {
        String source = Files.readString(Path.of("src/main/java/SpentTurns.java"));
        String code = withoutTexts(source);
        face();
        nested();
        words(code);
        sizes(code);
        CHECK.due("signs above 127", source.chars().filter(c -> c > 127).count(), 0);
        CHECK.close();
    }

    private static String withoutTexts(String source) {
        String noComments = source.replaceAll("(?s)/\\*.*?\\*/", "").replaceAll("//[^\n]*", "");
        return noComments.replaceAll("\"[^\"\n]*\"", "\"\"").replaceAll("'(\\\\.|[^'])'", "' '");
    }

    private static void face() {
        Set<String> due = new TreeSet<>(List.of(FACE.split(" ")));
        Set<String> open = new TreeSet<>();
        Set<String> names = new TreeSet<>();
        for (String one : due) names.add(one.substring(0, one.indexOf(':')));
        for (Method m : SpentTurns.class.getDeclaredMethods()) {
            if (Modifier.isPrivate(m.getModifiers())) {
                CHECK.due("private " + m.getName() + " bears a public name", names.contains(m.getName()) ? 1 : 0, 0);
                continue;
            }
            open.add(m.getName() + ":" + m.getParameterCount());
            CHECK.due(m.getName() + " is public, answers int", Modifier.isPublic(m.getModifiers()) && m.getReturnType() == int.class ? 1 : 0, 1);
            for (int i = 0; i < m.getParameterCount(); i++) {
                Class<?> type = m.getName().equals("write") && i == 2 ? long.class : int.class;
                CHECK.due(m.getName() + " takes " + type, m.getParameterTypes()[i] == type ? 1 : 0, 1);
            }
        }
        CHECK.due("the face is " + open, open.equals(due) ? 1 : 0, 1);
        CHECK.due("the class is public and final", SpentTurns.class.getModifiers(), Modifier.PUBLIC | Modifier.FINAL);
        for (Constructor<?> c : SpentTurns.class.getDeclaredConstructors()) {
            CHECK.due("the constructor", Modifier.isPublic(c.getModifiers()) && c.getParameterCount() == 0 ? 1 : 0, 1);
        }
    }

    private static void nested() {
        List<Class<?>> classes = new ArrayList<>(List.of(SpentTurns.class.getDeclaredClasses()));
        CHECK.due("at most twelve classes", classes.size() + 1 <= 12 ? 1 : 0, 1);
        Set<String> names = new TreeSet<>();
        for (String one : FACE.split(" ")) names.add(one.substring(0, one.indexOf(':')));
        for (Class<?> inside : classes) {
            CHECK.due(inside + " is static", Modifier.isStatic(inside.getModifiers()) ? 1 : 0, 1);
            for (Method m : inside.getDeclaredMethods()) {
                CHECK.due(inside + "." + m.getName() + " bears a public name", names.contains(m.getName()) ? 1 : 0, 0);
            }
        }
        classes.add(SpentTurns.class);
        for (Class<?> one : classes) fields(one);
    }

    private static void fields(Class<?> one) {
        int own = 0;
        for (Field f : one.getDeclaredFields()) {
            int mods = f.getModifiers();
            if (Modifier.isStatic(mods)) {
                CHECK.due(f + " is final", Modifier.isFinal(mods) ? 1 : 0, 1);
            } else {
                own++;
            }
            boolean isFace = f.getName().equals("NONE");
            CHECK.due(f + " is private", Modifier.isPrivate(mods) || isFace ? 1 : 0, 1);
        }
        CHECK.due(one + " has " + own + " fields", own <= 20 ? 1 : 0, 1);
    }

    private static void words(String code) {
        String[] barred = {"throw", "throws", "try", "catch", "finally", "synchronized", "assert", "native", "volatile", "strictfp", "var",
            "Object", "Map", "HashMap", "Set", "Random", "Thread", "System\\.(?!arraycopy)\\w+", "\\w+Exact", "hashCode", "toString",
            "Math\\.random", "File", "java\\.(?!util\\.Arrays;)\\w+\\.\\w+", "Arrays\\.(?!fill|copyOf|copyOfRange)\\w+", "package"};
        for (String word : barred) {
            Matcher m = Pattern.compile("(?<![\\w.])" + word + "\\b").matcher(code);
            CHECK.due("the word " + word, m.find() ? 1 : 0, 0);
        }
        for (String sign : new String[] {"->", "::", "\\[\\]\\[\\]\\[\\]", "@"}) {
            CHECK.due("the sign " + sign, Pattern.compile(sign).matcher(code).find() ? 1 : 0, 0);
        }
        // rule 12: no constructor hands out a part of the object that it makes
        CHECK.due("an own object made of another's parts", Pattern.compile("new [A-Z]\\w*\\([^)]").matcher(code).find() ? 1 : 0, 0);
        CHECK.due("this handed out", Pattern.compile("[(,]\\s*this\\s*[,)]").matcher(code).find() ? 1 : 0, 0);
        // rule 4: Arrays.fill over arrays of numbers alone
        CHECK.due("arrays of boolean", Pattern.compile("boolean\\s*\\[").matcher(code).find() ? 1 : 0, 0);
        CHECK.due("joining texts by +", Pattern.compile("\"\"\\s*\\+|\\+\\s*\"\"").matcher(code).find() ? 1 : 0, 0);
    }

    /** Methods of at most sixty lines and seven parameters. */
    private static void sizes(String code) {
        String[] lines = code.split("\n");
        Pattern head = Pattern.compile("^(\\s+)(public|private)( static)? [\\w\\[\\]]+( \\w+)?\\(([^)]*)\\) \\{$");
        for (int i = 0; i < lines.length; i++) {
            Matcher m = head.matcher(lines[i]);
            if (!m.matches()) continue;
            int end = i;
            while (end < lines.length && !lines[end].equals(m.group(1) + "}")) end++;
            CHECK.due(lines[i].trim() + " has " + (end - i + 1) + " lines", end - i < 60 ? 1 : 0, 1);
            int parameters = m.group(5).isEmpty() ? 0 : m.group(5).split(",").length;
            CHECK.due(lines[i].trim() + " has " + parameters + " parameters", parameters <= 7 ? 1 : 0, 1);
        }
    }
}
