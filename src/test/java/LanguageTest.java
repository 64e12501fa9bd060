import java.io.IOException;
import java.lang.reflect.Field;
import java.lang.reflect.Method;
import java.lang.reflect.Modifier;
import java.nio.file.Files;
import java.nio.file.Path;
import java.util.ArrayList;
import java.util.List;
import java.util.Set;
import java.util.TreeSet;
import java.util.regex.Matcher;
import java.util.regex.Pattern;

/** Those rules of LANGUAGE.md that can be seen in the file's words or in the compiled classes. */
public final class LanguageTest {
    private static final Path SOURCE = Path.of("src/main/java/ShellMoney.java");

    /** Rules 2, 6, 9, 10, 13: words and signs that the program does without. */
    private static final String[] LEFT_OUT = {
        "->", "::", "\\btry\\b", "\\bcatch\\b", "\\bfinally\\b", "\\bsynchronized\\b", "\\bassert\\b",
        "\\bvolatile\\b", "\\bnative\\b", "\\btransient\\b", "\\bThread\\b", "\\bRandom\\b", "\\bSystem\\.(?!arraycopy)",
        "\\bdouble\\b", "\\bfloat\\b", "\\bString\\b", "Exact\\b", "\\bhashCode\\b", "\\bequals\\b",
        "\\btoString\\b", "while \\(true\\)", "for \\(;;\\)", "^package ", "static \\{",
    };

    private static final Set<Class<?>> OF_CONSTANTS = Set.of(int.class, long.class, boolean.class, char.class,
            String.class, int[].class, long[].class, char[].class, byte[].class);

    private final Check check = new Check();
    private final String text;

    private LanguageTest(String text) {
        this.text = text;
    }

    public static void main(String[] args) throws IOException {
        LanguageTest test = new LanguageTest(Files.readString(SOURCE));
        test.checkWords();
        test.checkMethodLengths();
        test.checkClasses();
        test.check.close();
    }

    private void checkWords() {
        String code = text.replaceAll("(?s)/\\*.*?\\*/", "").replaceAll("//.*", "");
        for (String word : LEFT_OUT) {
            check.due("rules 2 to 13: the code has " + word,
                    Pattern.compile(word, Pattern.MULTILINE).matcher(code).find(), false);
        }
        Matcher imports = Pattern.compile("^import (.*);", Pattern.MULTILINE).matcher(code);
        while (imports.find()) {
            check.due("rule 4: import " + imports.group(1),
                    imports.group(1).equals("java.util.NoSuchElementException"), true);
        }
        check.due("rule 3: signs above 127", text.chars().anyMatch(c -> c > 127), false);
        Matcher thrown = Pattern.compile("throw ([^;]*);").matcher(code);
        while (thrown.find()) {
            check.due("rule 6, promise 9: throw " + thrown.group(1),
                    thrown.group(1).equals("new NoSuchElementException()"), true);
        }
    }

    /** Rule 11: a method, from the line that opens it to the brace below its own margin. */
    private void checkMethodLengths() {
        List<String> lines = text.lines().toList();
        for (int k = 0; k < lines.size(); k++) {
            String line = lines.get(k);
            if (!line.matches(" +(public|private) .*\\) (throws \\w+ )?\\{")) {
                continue;
            }
            String margin = line.substring(0, line.length() - line.stripLeading().length());
            int end = k;
            while (end < lines.size() && !lines.get(end).equals(margin + "}")) {
                end++;
            }
            check.due("rule 11, some sixty lines: " + line.strip(), end - k < 60, true);
        }
    }

    private void checkClasses() {
        List<Class<?>> classes = new ArrayList<>(List.of(ShellMoney.class.getDeclaredClasses()));
        classes.add(ShellMoney.class);
        check.due("rule 11: some twelve classes", classes.size() <= 12, true);
        for (Class<?> c : classes) {
            checkFields(c);
            checkMethods(c);
            if (c != ShellMoney.class) {
                check.due("rule 1: " + c + " is static", Modifier.isStatic(c.getModifiers()), true);
                check.due("rule 1: " + c + " is private or package-visible",
                        (c.getModifiers() & (Modifier.PUBLIC | Modifier.PROTECTED)) == 0, true);
                check.due("rule 11: " + c + " is one deep", c.getDeclaredClasses().length, 0);
            }
        }
    }

    private void checkFields(Class<?> c) {
        int own = 0;
        for (Field f : c.getDeclaredFields()) {
            if (Modifier.isStatic(f.getModifiers())) {
                check.due("rule 5: final, " + f, Modifier.isFinal(f.getModifiers()), true);
                check.due("rule 5: a constant, " + f, OF_CONSTANTS.contains(f.getType()), true);
            } else {
                own++;
            }
        }
        check.due("rule 11: some twenty fields, " + c, own <= 20, true);
    }

    private void checkMethods(Class<?> c) {
        Set<String> face = faceNames();
        for (Method m : c.getDeclaredMethods()) {
            check.due("rule 11: seven parameters, " + m, m.getParameterCount() <= 7, true);
            check.due("rule 1: a private method with a public one's name, " + m,
                    Modifier.isPrivate(m.getModifiers()) && face.contains(m.getName()), false);
        }
    }

    private static Set<String> faceNames() {
        Set<String> names = new TreeSet<>();
        for (Method m : ShellMoney.class.getDeclaredMethods()) {
            if (Modifier.isPublic(m.getModifiers())) {
                names.add(m.getName());
            }
        }
        return names;
    }
}
