import java.util.LinkedHashMap;
import java.util.Map;
import java.util.function.Supplier;

/** Counts answers that are not as due, and ends a test with exit code 1 if there was one. */
final class Check {
    private static final Map<String, Integer> ANSWERS = new LinkedHashMap<>();
    private static String sentence = "";
    private static int wrong = 0;
    private static int asked = 0;

    private Check() {
    }

    /** Names the document's words by which the answers from here on are due. */
    static void says(String words) {
        sentence = words;
        ANSWERS.putIfAbsent(words, 0);
    }

    /** The words that were named, each with the number of answers that were asked for by it. */
    static Map<String, Integer> said() {
        sentence = "";
        return ANSWERS;
    }

    static void due(String what, Object got, Object want) {
        asked++;
        if (!sentence.isEmpty()) {
            ANSWERS.merge(sentence, 1, Integer::sum);
        }
        if (!String.valueOf(got).equals(String.valueOf(want))) {
            wrong++;
            System.out.println(what + " answered " + got + ", due is " + want
                    + (sentence.isEmpty() ? "" : " by: " + sentence));
        }
    }

    /** What a call answers, or the exception that it throws, in the words of the issues. */
    static String answer(Supplier<Object> call) {
        try {
            return String.valueOf(call.get());
        } catch (RuntimeException e) {
            return "throws." + e.getClass().getSimpleName();
        }
    }

    static void dueCall(String what, Supplier<Object> call, Object want) {
        due(what, answer(call), want);
    }

    static void finish(String test) {
        System.out.println(test + ": " + asked + " answers, " + wrong + " not as due");
        if (wrong != 0 || asked == 0) {
            System.exit(1);
        }
    }
}
