import java.io.IOException;
import java.lang.reflect.Member;
import java.lang.reflect.Modifier;
import java.nio.file.Files;
import java.nio.file.Path;
import java.util.ArrayList;
import java.util.Arrays;
import java.util.List;
import java.util.TreeSet;
import java.util.regex.Matcher;
import java.util.regex.Pattern;

/** The rules of LANGUAGE.md that a reading of the source and of the compiled class can look after. */
public final class LanguageTest {
    private static final Path SOURCE = Path.of("src/main/java/PlantedDoubts.java");
    private static final String FACE = "ask book by done down end fault feed first fits game gives greenhouses house image line look of "
        + "part pot reason set state struck talk tell text undo water waters weed weeks";
    private static int wrong = 0;

    private static void must(boolean is, String what) { if (!is) { wrong++; System.out.println(what); } }

    public static void main(String[] args) throws IOException {
        List<String> lines = Files.readAllLines(SOURCE);
        face();
        words(lines);
        methods(lines);
        System.out.println(wrong == 0 ? "the language is kept" : wrong + " breaches of the language");
        if (wrong != 0) System.exit(1);
    }

    private static void face() {
        Class<?> c = PlantedDoubts.class;
        TreeSet<String> names = new TreeSet<>();
        List<Member> members = new ArrayList<>();
        members.addAll(Arrays.asList(c.getDeclaredMethods()));
        members.addAll(Arrays.asList(c.getDeclaredFields()));
        members.addAll(Arrays.asList(c.getDeclaredConstructors()));
        TreeSet<String> face = new TreeSet<>(Arrays.asList(FACE.split(" ")));
        for (Member m : members) {
            if (m.isSynthetic()) continue;
            boolean open = Modifier.isPublic(m.getModifiers());
            must(open || Modifier.isPrivate(m.getModifiers()), "rule 1: " + m + " is neither public nor private");
            if (open) names.add(m.getName()); else must(!face.contains(m.getName()) || !(m instanceof java.lang.reflect.Method), "rule 1: private " + m);
        }
        face.add("NONE");
        face.add("PlantedDoubts");
        must(names.equals(face), "rule 1: the face is " + names);
        must(c.getDeclaredClasses().length <= 12, "rule 11: too many classes");
        for (Class<?> k : c.getDeclaredClasses()) {
            must(Modifier.isStatic(k.getModifiers()) && !Modifier.isPublic(k.getModifiers()), "rules 1 and 2: " + k);
            long fields = Arrays.stream(k.getDeclaredFields()).filter(f -> !Modifier.isStatic(f.getModifiers())).count();
            must(fields <= 20, "rule 11: " + k + " has " + fields + " fields");
            for (var f : k.getDeclaredFields()) must(!Modifier.isStatic(f.getModifiers()) || Modifier.isFinal(f.getModifiers()), "rule 5: " + f);
        }
    }

    private static void words(List<String> lines) {
        Pattern banned = Pattern.compile("\\b(throw|throws|try|catch|synchronized|assert|import|package|native|volatile|hashCode|toString|Object|Exact|System\\.out|double|float)\\b|->|::|\\.\\.\\.");
        for (int i = 0; i < lines.size(); i++) {
            String code = lines.get(i).replaceAll("\"[^\"]*\"", "\"\"").replaceAll("//.*|/\\*\\*.*\\*/", "");
            Matcher m = banned.matcher(code);
            must(!m.find(), "line " + (i + 1) + ": " + lines.get(i));
            must(!code.matches(".*\"\\s*\\+.*|.*\\+\\s*\".*"), "rule 10, line " + (i + 1) + ": " + lines.get(i));
            must(lines.get(i).chars().allMatch(c -> c >= 32 && c < 127), "rule 4, line " + (i + 1));
        }
    }

    private static void methods(List<String> lines) {
        Pattern head = Pattern.compile("^( {4}| {8})(?:(?:public|private|static|final) )*[\\w\\[\\]]* ?\\w+\\(([^)]*)\\) \\{$");
        for (int i = 0; i < lines.size(); i++) {
            Matcher m = head.matcher(lines.get(i));
            if (!m.matches()) continue;
            must(m.group(2).split(",").length <= 7, "rule 11: too many parameters in line " + (i + 1));
            int to = i;
            while (to < lines.size() && !lines.get(to).equals(m.group(1) + "}")) to++;
            must(to - i < 60, "rule 11: the method in line " + (i + 1) + " has " + (to - i + 1) + " lines");
        }
    }
}
