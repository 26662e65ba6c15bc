import java.util.ArrayList;
import java.util.List;

/** Counts answers that are not as due, and ends a test with exit code 1 if there was one. */
final class Check {
    /** A sentence of the document; its promise is 0 if it stands before the first one. */
    record Sentence(int promise, String words) {
    }

    private static final List<Sentence> SENTENCES = new ArrayList<>();
    private static int answers = 0;
    private static int answersBeforeSentence = 0;
    private static int wrong = 0;

    private Check() {
    }

    /** Tells by which sentence of the document the answers behind this call are due. */
    static void sentence(int promise, String words) {
        endSentence();
        SENTENCES.add(new Sentence(promise, words));
        answersBeforeSentence = answers;
    }

    /** A sentence that no answer was looked at for has no test. */
    private static void endSentence() {
        if (!SENTENCES.isEmpty() && answers == answersBeforeSentence) {
            wrong++;
            System.out.println("no answer was looked at for: " + latest());
        }
    }

    private static String latest() {
        if (SENTENCES.isEmpty()) {
            return "";
        }
        Sentence sentence = SENTENCES.get(SENTENCES.size() - 1);
        return "[" + sentence.promise() + ": " + sentence.words() + "] ";
    }

    /** All sentences up to now. */
    static List<Sentence> sentences() {
        return List.copyOf(SENTENCES);
    }

    static void due(String what, long got, long want) {
        answers++;
        if (got != want) {
            wrong++;
            System.out.println(latest() + what + " answered " + got + ", due is " + want);
        }
    }

    static void dueTrue(String what, boolean holds) {
        due(what, holds ? 1 : 0, 1);
    }

    static int wrongAnswers() {
        return wrong;
    }

    static void finish() {
        endSentence();
        System.out.println(answers + " answers, " + wrong + " not as due");
        if (wrong != 0 || answers == 0) {
            System.exit(1);
        }
    }
}
