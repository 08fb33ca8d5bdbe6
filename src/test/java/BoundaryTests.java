import java.nio.charset.StandardCharsets;
import java.nio.file.Files;
import java.nio.file.Path;
import java.util.Map;

/** For each sentence of the document that names a boundary case, a test that names it. Runs in the project's directory. */
public final class BoundaryTests {
    private static final Path DOCUMENT = Path.of("../shared/DOC.md");
    private static int wrong = 0;

    public static void main(String[] args) throws Exception {
        LineBounds.run();
        RateBounds.run();
        TrialBounds.run();
        OrderBounds.run();
        TapeBounds.run();
        RowBounds.run();
        ActBounds.run();
        everySentenceHasChecks();
        everyPromiseHasSentences();
        everySentenceStandsInTheDocument();
        wrong += Bound.wrong;
        System.out.println(wrong == 0 ? Bound.checks.size() + " sentences that name boundary cases hold"
            : wrong + " checks of boundary cases fail");
        if (wrong != 0) System.exit(1);
    }

    private static void fault(String told) {
        wrong++;
        System.out.println(told);
    }

    private static void everySentenceHasChecks() {
        for (Map.Entry<String, Integer> one : Bound.checks.entrySet()) {
            if (one.getValue() == 0) fault("no check for \"" + one.getKey() + "\"");
        }
    }

    private static void everyPromiseHasSentences() {
        for (int promise = 1; promise <= 44; promise++) {
            if (!Bound.promises.containsKey(promise)) fault("no boundary case of promise " + promise);
        }
    }

    /** So that a test does not outlive the words that it is for. */
    private static void everySentenceStandsInTheDocument() throws Exception {
        if (!Files.isReadable(DOCUMENT)) {
            System.out.println("there is no " + DOCUMENT + ": sentences were not looked up");
            return;
        }
        String document = plain(Files.readString(DOCUMENT, StandardCharsets.UTF_8));
        for (String words : Bound.checks.keySet()) {
            if (!document.contains(plain(words))) fault("not in the document: \"" + words + "\"");
        }
    }

    private static String plain(String text) {
        return text.replaceAll("\\s+", " ").trim();
    }
}
