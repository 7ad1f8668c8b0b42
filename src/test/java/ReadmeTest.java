import java.io.IOException;
import java.lang.reflect.Method;
import java.lang.reflect.Modifier;
import java.nio.file.Files;
import java.nio.file.Path;
import java.util.ArrayList;
import java.util.Comparator;
import java.util.List;
import java.util.regex.Matcher;
import java.util.regex.Pattern;
import java.util.stream.Stream;

/** What README.md says can be done is done, as it stands there, in a copy of the project. */
public final class ReadmeTest {
    private record Block(String kind, String text) {
    }

    private static final Pattern FENCED = Pattern.compile("(?ms)^```(\\w+)\n(.*?)^```$");
    private static final Pattern SAVED = Pattern.compile("saved as `([^`]+)`");

    private ReadmeTest() {
    }

    public static void main(String[] args) throws IOException, InterruptedException {
        String readme = Files.readString(Path.of("README.md"));
        namesEachCall(readme);
        namesEachTest(readme);
        Path place = Files.createTempDirectory("readme");
        try {
            Path project = copyOfProject(place, Path.of(args[0]));
            doAsItSays(readme, project);
        } finally {
            remove(place);
        }
        Check.end("ReadmeTest");
    }

    private static void namesEachCall(String readme) {
        for (Method method : StreetNamer.class.getDeclaredMethods()) {
            if (Modifier.isPublic(method.getModifiers())) {
                Check.due("README.md names " + method.getName(), readme.contains("`" + method.getName() + "("), true);
            }
        }
    }

    private static void namesEachTest(String readme) throws IOException {
        for (Path test : listed(Path.of("src/test/java"))) {
            String name = test.getFileName().toString().replace(".java", "");
            if (name.endsWith("Test") || name.endsWith("Boundaries")) {
                Check.due("README.md names " + name, readme.contains("`" + name), true);
            }
        }
    }

    private static void doAsItSays(String readme, Path project) throws IOException, InterruptedException {
        Matcher saved = SAVED.matcher(readme);
        boolean isSaid = saved.find();
        Check.due("README.md says where to save its class", isSaid, true);
        Path example = project.resolve(isSaid ? saved.group(1) : "Example.java");
        Files.createDirectories(example.getParent());
        List<Block> blocks = blocks(readme);
        int run = 0;
        for (int i = 0; i < blocks.size(); i++) {
            Block block = blocks.get(i);
            if (block.kind.equals("java")) {
                Files.writeString(example, block.text);
            } else if (block.kind.equals("sh")) {
                boolean isTold = i + 1 < blocks.size() && blocks.get(i + 1).kind.equals("text");
                runs(block.text, project, isTold ? blocks.get(i + 1).text : null);
                run++;
            }
        }
        Check.due("README.md has commands", run > 0, true);
    }

    private static void runs(String commands, Path project, String due) throws IOException, InterruptedException {
        // It runs this very test, so that only its being there is looked at here.
        if (commands.trim().equals(".ci/run")) {
            Check.due(".ci/run can be run", Files.isExecutable(Path.of(".ci/run")), true);
            return;
        }
        Path output = project.resolve("output");
        Process process = new ProcessBuilder("sh", "-e", "-c", commands).directory(project.toFile())
                .redirectErrorStream(true).redirectOutput(output.toFile()).start();
        int ended = process.waitFor();
        String said = Files.readString(output);
        Check.due("the end of\n" + commands + said, ended, 0);
        if (due != null) {
            Check.due("the output of\n" + commands, said, due);
        }
    }

    private static List<Block> blocks(String readme) {
        List<Block> blocks = new ArrayList<>();
        Matcher fenced = FENCED.matcher(readme);
        while (fenced.find()) {
            blocks.add(new Block(fenced.group(1), fenced.group(2)));
        }
        return blocks;
    }

    /** The project's sources, with the shared directory beside them, so that commands can leave what they like. */
    private static Path copyOfProject(Path place, Path shared) throws IOException {
        Path project = place.resolve("main");
        for (String directory : new String[] {"src/main/java", "src/test/java"}) {
            Files.createDirectories(project.resolve(directory));
            for (Path file : listed(Path.of(directory))) {
                Files.copy(file, project.resolve(directory).resolve(file.getFileName()));
            }
        }
        Files.createSymbolicLink(place.resolve("shared"), shared.toRealPath());
        return project;
    }

    private static List<Path> listed(Path directory) throws IOException {
        try (Stream<Path> files = Files.list(directory)) {
            return files.sorted().toList();
        }
    }

    private static void remove(Path place) throws IOException {
        try (Stream<Path> files = Files.walk(place)) {
            for (Path file : files.sorted(Comparator.reverseOrder()).toList()) {
                Files.delete(file);
            }
        }
    }
}
