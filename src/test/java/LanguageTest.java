import com.sun.source.tree.CompilationUnitTree;
import com.sun.source.tree.ImportTree;
import com.sun.source.util.JavacTask;
import com.sun.source.util.Trees;
import java.io.IOException;
import java.nio.file.Files;
import java.nio.file.Path;
import java.util.List;
import java.util.Map;
import java.util.Set;
import java.util.TreeSet;
import javax.tools.JavaCompiler;
import javax.tools.StandardJavaFileManager;
import javax.tools.ToolProvider;

/**
 * The source keeps to the rules of LANGUAGE.md, as far as its tree tells; FaceTest looks at rule 1. Each rule is
 * also shown a class that breaks it, so that a look that has gone blind is told.
 */
public final class LanguageTest {
    private static final Set<String> IMPORTS = Set.of("java.util.Arrays", "java.util.ArrayList", "java.util.List",
            "java.util.Iterator", "java.util.NoSuchElementException");
    private static final Path SOURCE = Path.of("src/main/java/StreetNamer.java");

    private LanguageTest() {
    }

    public static void main(String[] args) throws IOException {
        String source = Files.readString(SOURCE);
        Check.due("the rules that the source breaks", faults(SOURCE).toString(), "[]");
        Check.due("the source has signs beyond 127", source.chars().anyMatch(sign -> sign > 127), false);
        // Rule 6 allows some; without any, none can answer a call by what the machine throws.
        Check.due("the source catches something", source.contains("catch"), false);
        eachBrokenRuleIsSeen();
        Check.end("LanguageTest");
    }

    private static void eachBrokenRuleIsSeen() throws IOException {
        Path place = Files.createTempDirectory("language");
        try {
            for (Map.Entry<String, List<String>> rule : BrokenRules.ALL.entrySet()) {
                for (String broken : rule.getValue()) {
                    Path file = place.resolve("Broken.java");
                    Files.writeString(file, BrokenRules.classOf(broken));
                    Check.due("rules broken by " + broken, faults(file).toString(), "[" + rule.getKey() + "]");
                }
            }
        } finally {
            Files.deleteIfExists(place.resolve("Broken.java"));
            Files.delete(place);
        }
    }

    /** The rules that a file breaks, each told once. */
    private static Set<String> faults(Path file) throws IOException {
        JavaCompiler compiler = ToolProvider.getSystemJavaCompiler();
        try (StandardJavaFileManager files = compiler.getStandardFileManager(null, null, null)) {
            JavacTask task = (JavacTask) compiler.getTask(null, files, null,
                    List.of("--release", "17", "-proc:none"), null, files.getJavaFileObjects(file));
            CompilationUnitTree unit = task.parse().iterator().next();
            task.analyze();
            Language look = new Language(Trees.instance(task), task, unit);
            look.scan(unit, null);
            Set<String> faults = new TreeSet<>(look.faults());
            if (unit.getPackageName() != null || unit.getTypeDecls().size() != 1) {
                faults.add("1");
            }
            for (ImportTree imported : unit.getImports()) {
                if (imported.isStatic() || !IMPORTS.contains(imported.getQualifiedIdentifier().toString())) {
                    faults.add("4");
                }
            }
            return faults;
        }
    }
}
