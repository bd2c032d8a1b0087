import java.io.IOException;
import java.nio.file.Files;
import java.nio.file.Path;
import java.util.ArrayList;
import java.util.LinkedHashMap;
import java.util.List;
import java.util.Map;
import java.util.Set;
import java.util.TreeSet;
import java.util.function.LongSupplier;
import java.util.regex.Matcher;
import java.util.regex.Pattern;
import java.util.stream.Stream;

/** README.md: what it says of the class is what the class answers, and what it says of the tests is what .ci/run does. */
public final class ReadmeTest {
    /** What a call without an answer counts as. */
    private static final long NO_ANSWER = Long.MIN_VALUE;
    private static final Path TESTS = Path.of("src/test/java");

    public static void main(String[] args) throws IOException {
        String readme = Files.readString(Path.of("README.md"));
        List<String> blocks = blocks(readme, "java");
        Desk.due("how many examples there are", blocks.size(), 2);
        if (blocks.size() == 2) {
            exampleAnswersWhatItSays(blocks.get(0));
            exampleHasEveryCall(blocks.get(0));
            textIsFedAsItSays(blocks.get(1));
        }
        numbersAreTheDocuments(readme);
        everyTestIsNamed(readme);
        testsAreRunAsItSays(readme);
        Desk.end();
    }

    /** The example's calls, in their order; they are made when their answers are looked at. */
    private static Map<String, LongSupplier> exampleCalls() {
        OriginDesk desk = new OriginDesk(1700000000);
        Map<String, LongSupplier> calls = new LinkedHashMap<>();
        calls.put("OriginDesk desk = new OriginDesk(1700000000);", () -> NO_ANSWER);
        calls.put("desk.add(0, 0, 100, 7, false, 784111777L);", () -> desk.add(0, 0, 100, 7, false, 784111777L));
        calls.put("desk.request(0);", () -> silent(() -> desk.request(0)));
        calls.put("desk.feed(7, 0x2D303D7365747962L);", () -> desk.feed(7, 0x2D303D7365747962L));
        calls.put("desk.feed(7, 0x34L);", () -> desk.feed(7, 0x34L));
        calls.put("desk.feed(5, 0L);", () -> desk.feed(5, 0L));
        calls.put("desk.formed(7);", () -> desk.formed(7) ? 1 : 0);
        calls.put("desk.date(5);", () -> desk.date(5));
        calls.put("desk.score(0);", () -> desk.score(0));
        calls.put("desk.respond();", desk::respond);
        calls.put("desk.status();", desk::status);
        calls.put("desk.chosen();", desk::chosen);
        calls.put("desk.parts();", desk::parts);
        calls.put("desk.first(0);", () -> desk.first(0));
        calls.put("desk.last(0);", () -> desk.last(0));
        calls.put("desk.length();", desk::length);
        calls.put("desk.body(4);", () -> desk.body(4));
        calls.put("desk.body(5);", () -> desk.body(5));
        calls.put("desk.clear();", () -> silent(desk::clear));
        calls.put("desk.add(6, 0, 100, 7, false, 784111777L);", () -> desk.add(6, 0, 100, 7, false, 784111777L));
        return calls;
    }

    private static long silent(Runnable call) {
        call.run();
        return NO_ANSWER;
    }

    private static void exampleAnswersWhatItSays(String example) {
        List<String> told = new ArrayList<>();
        Map<String, LongSupplier> calls = exampleCalls();
        for (String line : example.split("\n")) {
            String[] sides = line.split("//", 2);
            String call = sides[0].trim();
            told.add(call);
            LongSupplier made = calls.get(call);
            Desk.due("README.md's line <" + line + "> is known here", made != null && sides.length == 2, true);
            if (made != null && sides.length == 2) {
                Desk.due("README.md's " + call, made.getAsLong(), answerToldIn(sides[1]));
            }
        }
        Desk.due("README.md's calls are in their order", told.equals(new ArrayList<>(calls.keySet())), true);
    }

    private static long answerToldIn(String comment) {
        Matcher told = Pattern.compile("\\s*(-?[0-9]+|true|false): .*").matcher(comment);
        if (!told.matches()) {
            return NO_ANSWER;
        }
        String answer = told.group(1);
        return answer.equals("true") ? 1 : answer.equals("false") ? 0 : Long.parseLong(answer);
    }

    private static void exampleHasEveryCall(String example) {
        for (java.lang.reflect.Method method : OriginDesk.class.getMethods()) {
            if (method.getDeclaringClass() == OriginDesk.class) {
                Desk.due("README.md uses " + method.getName(), example.contains("desk." + method.getName() + "("), true);
            }
        }
    }

    static void feedText(OriginDesk desk, int field, String text) {
        for (int from = 0; from < text.length(); from += 8) {
            long characters = 0;
            for (int i = 0; i < 8 && from + i < text.length(); i++) {
                characters |= (text.charAt(from + i) & 255L) << (8 * i);
            }
            desk.feed(field, characters);
        }
    }

    private static void textIsFedAsItSays(String example) throws IOException {
        String here = Files.readString(TESTS.resolve("ReadmeTest.java"));
        Desk.due("README.md's feedText is the one here", unindented(here).contains(unindented(example)), true);
        for (String tag : new String[] {"\"\u00ff\u0080\"", "\"v42\"", "W/\"v42\", \"a-long-one,of-many-characters\""}) {
            OriginDesk desk = Desk.withOne(10, false);
            feedText(desk, Desk.MATCH, tag);
            Desk.due("the length of <" + tag + ">", desk.feed(Desk.MATCH, 0), tag.length());
            Desk.due("formed of <" + tag + ">", desk.formed(Desk.MATCH), true);
            Desk.due("respond to <" + tag + ">", desk.respond(), tag.equals("\"v42\"") ? 200 : 412);
        }
    }

    private static String unindented(String code) {
        return code.replaceAll("(?m)^ +", "");
    }

    private static void numbersAreTheDocuments(String readme) throws IOException {
        String document = Files.readString(Path.of("../shared/DOC.md"));
        for (String kind : new String[] {"type", "language", "field"}) {
            Matcher row = Pattern.compile("(?m)^\\| " + kind + " \\| ([^|;]+(?:;level[^|;]+)?)").matcher(readme);
            boolean found = row.find();
            Desk.due("README.md has a row of " + kind, found, true);
            Desk.due("the document has README.md's numbers of " + kind, found && document.contains(row.group(1).trim()), true);
        }
        Desk.due("README.md has the methods", readme.contains("| method | 0 GET, 1 HEAD, 2 OPTIONS;"), true);
        Desk.due("README.md has the statuses", readme.contains("| status | 200, 204, 206, 304, 404, 406, 412, 416, 501 |"), true);
    }

    private static void everyTestIsNamed(String readme) throws IOException {
        Set<String> there = new TreeSet<>();
        try (Stream<Path> files = Files.list(TESTS)) {
            files.map(file -> file.getFileName().toString()).filter(name -> name.endsWith("Test.java"))
                .forEach(name -> there.add(name.replace(".java", "")));
        }
        Set<String> named = new TreeSet<>();
        Matcher name = Pattern.compile("(?m)`([A-Za-z]+Test)`(?=[^\n]* \\|$)").matcher(readme);
        while (name.find()) {
            named.add(name.group(1));
        }
        Desk.due("README.md names " + named + "; that these are the tests " + there, named.equals(there), true);
    }

    private static void testsAreRunAsItSays(String readme) throws IOException {
        String script = Files.readString(Path.of(".ci/run"));
        Desk.due(".ci/run can be executed", Files.isExecutable(Path.of(".ci/run")), true);
        List<String> commands = blocks(readme, "sh");
        String compile = "javac --release 17 -encoding UTF-8 -sourcepath src/test/java -d ";
        Desk.due("README.md compiles a test so", commands.size() == 1 && commands.get(0).startsWith(compile + "out src/main/java/OriginDesk.java "), true);
        Desk.due(".ci/run compiles a test so", script.contains(compile), true);
        for (String place : new String[] {"src/test/java/*Test.java", "../shared/tests/*.java"}) {
            Desk.due("README.md says " + place, readme.contains("`" + place + "`"), true);
            Desk.due(".ci/run goes through " + place, script.contains("for test in " + place + ";"), true);
        }
    }

    /** What stands between the marks of code in one language. */
    private static List<String> blocks(String readme, String language) {
        List<String> found = new ArrayList<>();
        Matcher block = Pattern.compile("```" + language + "\n(.*?)```", Pattern.DOTALL).matcher(readme);
        while (block.find()) {
            found.add(block.group(1));
        }
        return found;
    }
}
