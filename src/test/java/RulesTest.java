import java.io.IOException;
import java.lang.reflect.Constructor;
import java.lang.reflect.Field;
import java.lang.reflect.Method;
import java.lang.reflect.Modifier;
import java.nio.file.Files;
import java.nio.file.Path;
import java.util.Set;
import java.util.TreeSet;
import java.util.regex.Matcher;
import java.util.regex.Pattern;

/** What of LANGUAGE.md can be seen in the text of the class and in its members. */
public final class RulesTest {
    private static final Set<String> FACE = Set.of(
        "long feed(int,long)", "long text()", "long fault(int)", "long code(int,boolean)", "long as(int,int)",
        "long shape(int)", "long fun(int,int)", "long start()", "long step(int)", "long back(int)", "long now(int)",
        "long stack(int,boolean)", "long variable(int,int)", "long object(int,int)", "long printed(int)",
        "long result()", "long clear()", "long proof(int,int)", "long proves(int)", "long sheet(int,int,int)",
        "long put(int,int,int)", "long copy(int,int,int,int,int)", "long found(int)", "long all(int)");
    private static int wrong = 0;

    public static void main(String[] args) throws IOException {
        String text = Files.readString(Path.of("src/main/java/ProvedMachine.java"));
        face();
        for (Class<?> c : ProvedMachine.class.getDeclaredClasses()) {
            inside(c);
        }
        words(bare(text));
        methods(bare(text));
        System.out.println(wrong == 0 ? "all rules are kept" : wrong + " rules are broken");
        if (wrong != 0) {
            System.exit(1);
        }
    }

    private static void rule(boolean kept, String what) {
        if (!kept) {
            wrong++;
            System.out.println("broken: " + what);
        }
    }

    /** The text without comments and without what stands in quotes. */
    private static String bare(String text) {
        return text.replaceAll("(?s)/\\*.*?\\*/", "").replaceAll("\"[^\"\n]*\"", "\"\"")
            .replaceAll("'[^'\n]'", "' '").replaceAll("//[^\n]*", "");
    }

    private static void face() {
        Class<?> c = ProvedMachine.class;
        rule(Modifier.isPublic(c.getModifiers()) && Modifier.isFinal(c.getModifiers()), "1: public and final");
        Set<String> open = new TreeSet<>();
        for (Method m : c.getDeclaredMethods()) {
            if (!Modifier.isPrivate(m.getModifiers())) {
                String full = m.toString();
                open.add(m.getReturnType() + " " + full.substring(full.indexOf("." + m.getName() + "(") + 1));
                rule(Modifier.isPublic(m.getModifiers()), "1: not public, not private: " + m);
            }
        }
        rule(open.equals(new TreeSet<>(FACE)), "1: the face is " + open);
        rule(c.getDeclaredConstructors().length == 1, "1: one constructor");
        for (Constructor<?> k : c.getDeclaredConstructors()) {
            rule(Modifier.isPublic(k.getModifiers()) && k.getParameterCount() == 0, "1: " + k);
        }
        fields(c, true);
    }

    private static void inside(Class<?> c) {
        rule(Modifier.isStatic(c.getModifiers()), "2: static: " + c);
        rule(!Modifier.isPublic(c.getModifiers()) && !Modifier.isProtected(c.getModifiers()), "1: closed: " + c);
        for (Method m : c.getDeclaredMethods()) {
            for (String open : FACE) {
                rule(!open.contains(" " + m.getName() + "("), "1: a name of the face: " + m);
            }
        }
        fields(c, false);
    }

    private static void fields(Class<?> c, boolean allPrivate) {
        int own = 0;
        for (Field f : c.getDeclaredFields()) {
            int is = f.getModifiers();
            rule(!allPrivate || Modifier.isPrivate(is), "1: private: " + f);
            rule(!Modifier.isStatic(is) || Modifier.isFinal(is), "5: static and not final: " + f);
            own += Modifier.isStatic(is) ? 0 : 1;
        }
        rule(own <= 20, "11: fields of " + c + ": " + own);
    }

    private static void words(String text) {
        for (String word : "throw try catch finally synchronized assert throws volatile transient native var yield"
            .split(" ")) {
            rule(!Pattern.compile("\\b" + word + "\\b").matcher(text).find(), "6: " + word);
        }
        rule(!text.contains("->"), "2: a lambda or an arrow");
        rule(!text.contains("::"), "2: a method reference");
        rule(!text.contains("static {"), "5: a static block");
        rule(!text.contains("Exact("), "4: Exact");
        rule(!Pattern.compile("\"\"\\s*\\+|\\+\\s*\"\"").matcher(text).find(), "10: texts joined by +");
        Matcher imports = Pattern.compile("import ([\\w.]+);").matcher(text);
        while (imports.find()) {
            rule(imports.group(1).equals("java.util.Arrays"), "4: import " + imports.group(1));
        }
        rule(text.split("\\bclass \\w").length - 1 <= 12, "11: classes");
        Matcher made = Pattern.compile("(?m)^ {12,}.*\\bnew \\w+").matcher(text);
        while (made.find()) {
            rule(made.group().contains("new Sheet"), "12: made by a call: " + made.group().trim());
        }
        Matcher loops = Pattern.compile("while \\(([^\n]*)\\) \\{").matcher(text);
        while (loops.find()) {
            rule(loops.group(1).contains(" < "), "9: a loop without a bound: " + loops.group(1));
        }
    }

    private static void methods(String text) {
        Matcher head = Pattern.compile("(?m)^( {4}| {8})(?:public |private |static )*[\\w\\[\\]]+ \\w+\\(([^)]*)\\) \\{$")
            .matcher(text);
        int count = 0;
        while (head.find()) {
            count++;
            String end = "\n" + head.group(1) + "}\n";
            int lines = text.substring(head.start(), text.indexOf(end, head.end() - 2)).split("\n").length + 1;
            rule(lines <= 60, "11: " + lines + " lines: " + head.group().trim());
            rule(head.group(2).split(",").length <= 7, "11: parameters: " + head.group().trim());
        }
        rule(count > 100, "methods are seen: " + count);
    }
}
