import java.util.LinkedHashMap;
import java.util.Map;

/** Collects the answers of one test that are not as due, and ends it with exit code 1 if any. */
final class Check {
    interface Call {
        long answer();
    }

    /** How many answers were asked for each sentence of the document. */
    private final Map<String, Integer> sentences = new LinkedHashMap<>();
    private String sentence;
    private int asked;
    private int wrong;

    /** The answers from here on belong to one sentence, and are told with it if they are wrong. */
    void sentence(String promiseAndWords) {
        sentence = promiseAndWords;
        sentences.putIfAbsent(sentence, 0);
    }

    void due(String call, long got, long want) {
        count();
        if (got != want) {
            tell(call + " answered " + got + ", due is " + want);
        }
    }

    void due(String call, boolean got, boolean want) {
        due(call, got ? 1 : 0, want ? 1 : 0);
    }

    void due(String call, String got, String want) {
        count();
        if (!got.equals(want)) {
            tell(call + " answered\n  " + got + ", due is\n  " + want);
        }
    }

    /** The very class is due: a subclass such as ArrayIndexOutOfBoundsException is wrong. */
    void thrown(String call, Class<? extends RuntimeException> want, Call made) {
        count();
        try {
            long got = made.answer();
            tell(call + " answered " + got + ", due is " + want.getSimpleName());
        } catch (RuntimeException e) {
            if (e.getClass() != want) {
                tell(call + " threw " + e + ", due is " + want.getSimpleName());
            }
        }
    }

    void end() {
        for (Map.Entry<String, Integer> entry : sentences.entrySet()) {
            System.out.println(entry.getKey() + " [" + entry.getValue() + "]");
            if (entry.getValue() == 0) {
                tell("nothing was asked for: " + entry.getKey());
            }
        }
        System.out.println(asked + " answers, " + wrong + " not as due");
        if (wrong != 0) {
            System.exit(1);
        }
    }

    private void count() {
        asked++;
        if (sentence != null) {
            sentences.merge(sentence, 1, Integer::sum);
        }
    }

    private void tell(String what) {
        wrong++;
        if (wrong <= 50) {
            System.out.println((sentence == null ? "" : sentence + ": ") + what);
        }
    }
}
