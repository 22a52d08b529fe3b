import java.io.IOException;
import java.lang.reflect.Method;
import java.lang.reflect.Modifier;
import java.nio.file.Files;
import java.nio.file.Path;
import java.util.ArrayList;
import java.util.List;
import java.util.stream.Stream;

/** What README.md says of the class: its example, the document's words of every method, the tests. */
public final class ReadmeTest extends Checks {
    private static final int PROMISES = 20;
    private static final String BEGINS = "// The example begins.";
    private static final String ENDS = "// The example ends.";

    public static void main(String[] args) throws IOException {
        List<String> readme = Files.readAllLines(Path.of("README.md"));
        wordsOfPromises(readme);
        everyMethod(readme);
        wordsOfTerms(readme);
        exampleIsRun(readme);
        answersOfExample();
        everyTest(readme);
        end();
    }

    private static void wordsOfPromises(List<String> readme) throws IOException {
        about("every method of 'The public face', in the document's words");
        int promises = 0;
        for (String line : document()) {
            if (line.startsWith("`") && !line.startsWith("```")) {
                promises++;
                yes("README.md holds: " + line, readme.contains(line));
            }
        }
        due("promises of the document", promises, PROMISES);
    }

    private static void everyMethod(List<String> readme) {
        about("every method of 'The public face'");
        for (Method m : OpenDeal.class.getDeclaredMethods()) {
            if (Modifier.isPublic(m.getModifiers())) {
                String start = "`" + m.getReturnType().getSimpleName() + " " + m.getName() + "(";
                due("lines on " + m.getName(), readme.stream().filter(line -> line.startsWith(start)).count(), 1);
            }
        }
        yes("NONE", readme.stream().anyMatch(line -> line.startsWith("`int NONE = " + OpenDeal.NONE + "`")));
        yes("the constructor", readme.stream().anyMatch(line -> line.startsWith("`OpenDeal()`")));
    }

    private static void wordsOfTerms(List<String> readme) throws IOException {
        String document = String.join(" ", document());
        String text = String.join(" ", readme).replaceAll("\\s+", " ");
        String[] sentences = {
            "A card table without a dealer: players lock the deck in turn with exponents modulo a prime and shuffle it,"
                    + " lock it anew place by place, open cards by giving away what locks a place, bet, and in the end"
                    + " show their secrets: the hand is gone through again, and the first step that does not fit is told.",
            "An object is used for at most 512 calls after it has been made; what later calls answer is free.",
            "P is a prime such that (P - 1) / 2 is one, too, above 2^16 and below 2^31.",
            "CARDS are 0 .. 51; the NUMBER of card i is (i + 2)^2, modulo P.",
            "PLAYERS are numbered 0 .. 3 as they take a seat.",
            "An EXPONENT is a number 3 .. P - 2 that has no factor in common with P - 1.",
        };
        for (String sentence : sentences) {
            about(sentence);
            yes("the document holds it", document.contains(sentence));
            yes("README.md holds it", text.contains(sentence));
        }
    }

    private static List<String> document() throws IOException {
        return Files.readAllLines(Path.of("../shared/DOC.md"));
    }

    /** The example of README.md is the one below, line by line. */
    private static void exampleIsRun(List<String> readme) throws IOException {
        about("how to use the class");
        List<String> source = Files.readAllLines(Path.of("src/test/java/ReadmeTest.java"));
        List<String> run = between(source, BEGINS, ENDS);
        List<String> told = between(readme, "```java", "```");
        due("lines of the example", told.size(), run.size());
        for (int i = 0; i < Math.min(told.size(), run.size()); i++) {
            yes("run is: " + told.get(i), told.get(i).equals(run.get(i)));
        }
    }

    private static List<String> between(List<String> lines, String from, String to) {
        List<String> found = new ArrayList<>();
        boolean inside = false;
        for (String line : lines) {
            if (inside && line.strip().equals(to)) {
                return found;
            }
            if (inside) {
                found.add(line.strip());
            }
            inside = inside || line.strip().equals(from);
        }
        yes("there are " + from + " and " + to, false);
        return found;
    }

    private static void answersOfExample() {
        about("the answers that README.md tells");
        // The example begins.
        OpenDeal table = new OpenDeal();
        table.prime(65543);                  // P
        table.seat(100);                     // player 0
        table.seat(50);                      // player 1
        table.deal();                        // PHASE 1
        table.seal(0, 3, 1L, 2L);            // an EXPONENT, the KEY of an ORDER, the KEY of LOCKS
        table.seal(1, 7, 5L, -9L);           // all have sealed: PHASE 2
        table.turn(0);
        table.turn(1);                       // all have LOCKED the deck: PHASE 3
        table.turn(0);
        table.turn(1);                       // all have RELOCKED it: PHASE 4
        table.assign(5, 0);                  // place 5 is dealt to player 0
        table.give(1, 5);                    // player 1 gives its LOCK of place 5
        int card = table.open(0, 5);         // 31
        table.round();                       // a ROUND of bets
        table.bet(0, 2, 10);                 // player 0: RAISE by 10
        table.bet(1, 1, 0);                  // player 1: CALL; the ROUND ends
        table.settle(0x21);                  // RANK 1 for player 0, 2 for player 1: PHASE 5
        int chips = table.player(1, 0);      // 60
        table.show(0);
        table.show(1);                       // all have shown their secrets: PHASE 6
        int verdict = table.audit();         // 0: all fits
        table.deal();                        // the next hand, with the chips that each player has
        // The example ends.
        due("card", card, 31);
        due("chips", chips, 60);
        due("verdict", verdict, 0);
        due("PHASE of the next hand", table.state(0), 1);
        chips(table, 90, 60);
    }

    private static void everyTest(List<String> readme) throws IOException {
        about("how to run its tests");
        String text = String.join("\n", readme);
        yes(".ci/run", text.contains("    .ci/run\n"));
        try (Stream<Path> tests = Files.list(Path.of("src/test/java"))) {
            tests.map(test -> test.getFileName().toString())
                    .forEach(name -> yes("README.md names " + name, text.contains(name)));
        }
    }
}
